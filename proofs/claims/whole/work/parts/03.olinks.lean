theorem wf_B_106 : LkN (.fieldLinkNest "BrassYear" 106 "BrassYear$Orrery" "wheelCount" "I" "BrassYear") := ⟨List.mem_of_getElem? (i := 276) (by decide +kernel), rfl⟩
theorem wf_B_112 : Lk (.fieldLink "BrassYear" 112 "BrassYear" "lastTrouble" "I") := ⟨List.mem_of_getElem? (i := 572) (by decide +kernel), rfl⟩
theorem wf_B_115 : LkN (.fieldLinkNest "BrassYear" 115 "BrassYear$Reader" "place" "I" "BrassYear") := ⟨List.mem_of_getElem? (i := 168) (by decide +kernel), rfl⟩
theorem wf_B_122 : LkN (.fieldLinkNest "BrassYear" 122 "BrassYear$Orrery" "wheels" "[LBrassYear$Wheel;" "BrassYear") := ⟨List.mem_of_getElem? (i := 282) (by decide +kernel), rfl⟩
theorem wf_B_126 : LkN (.fieldLinkNest "BrassYear" 126 "BrassYear$Wheel" "kind" "I" "BrassYear") := ⟨List.mem_of_getElem? (i := 230) (by decide +kernel), rfl⟩
theorem wf_B_131 : LkN (.fieldLinkNest "BrassYear" 131 "BrassYear$Wheel" "teeth" "I" "BrassYear") := ⟨List.mem_of_getElem? (i := 235) (by decide +kernel), rfl⟩
theorem wf_B_134 : LkN (.fieldLinkNest "BrassYear" 134 "BrassYear$Wheel" "by" "I" "BrassYear") := ⟨List.mem_of_getElem? (i := 241) (by decide +kernel), rfl⟩
theorem wf_B_137 : LkN (.fieldLinkNest "BrassYear" 137 "BrassYear$Wheel" "goneCount" "I" "BrassYear") := ⟨List.mem_of_getElem? (i := 249) (by decide +kernel), rfl⟩
theorem wf_B_157 : LkN (.fieldLinkNest "BrassYear" 157 "BrassYear$Orrery" "workCount" "I" "BrassYear") := ⟨List.mem_of_getElem? (i := 291) (by decide +kernel), rfl⟩
theorem wf_B_16 : Lk (.fieldLink "BrassYear" 16 "BrassYear" "reader" "LBrassYear$Reader;") := ⟨List.mem_of_getElem? (i := 559) (by decide +kernel), rfl⟩
theorem wf_B_160 : LkN (.fieldLinkNest "BrassYear" 160 "BrassYear$Orrery" "workDays" "[I" "BrassYear") := ⟨List.mem_of_getElem? (i := 294) (by decide +kernel), rfl⟩
theorem wf_B_163 : LkN (.fieldLinkNest "BrassYear" 163 "BrassYear$Orrery" "workWorth" "[I" "BrassYear") := ⟨List.mem_of_getElem? (i := 298) (by decide +kernel), rfl⟩
theorem wf_B_166 : LkN (.fieldLinkNest "BrassYear" 166 "BrassYear$Orrery" "workFeast" "[I" "BrassYear") := ⟨List.mem_of_getElem? (i := 302) (by decide +kernel), rfl⟩
theorem wf_B_224 : LkN (.fieldLinkNest "BrassYear" 224 "BrassYear$Calendar" "bestBy" "I" "BrassYear") := ⟨List.mem_of_getElem? (i := 427) (by decide +kernel), rfl⟩
theorem wf_B_227 : LkN (.fieldLinkNest "BrassYear" 227 "BrassYear$Calendar" "bestByDays" "I" "BrassYear") := ⟨List.mem_of_getElem? (i := 429) (by decide +kernel), rfl⟩
theorem wf_B_23 : Lk (.fieldLink "BrassYear" 23 "BrassYear" "told" "LBrassYear$Orrery;") := ⟨List.mem_of_getElem? (i := 560) (by decide +kernel), rfl⟩
theorem wf_B_237 : LkN (.fieldLinkNest "BrassYear" 237 "BrassYear$WorkOrder" "bestWorth" "I" "BrassYear") := ⟨List.mem_of_getElem? (i := 460) (by decide +kernel), rfl⟩
theorem wf_B_240 : LkN (.fieldLinkNest "BrassYear" 240 "BrassYear$WorkOrder" "best" "[I" "BrassYear") := ⟨List.mem_of_getElem? (i := 458) (by decide +kernel), rfl⟩
theorem wf_B_243 : LkN (.fieldLinkNest "BrassYear" 243 "BrassYear$WorkOrder" "bestInTime" "I" "BrassYear") := ⟨List.mem_of_getElem? (i := 462) (by decide +kernel), rfl⟩
theorem wf_B_262 : LkN (.fieldLinkNest "BrassYear" 262 "BrassYear$Suspicion" "fitCount" "I" "BrassYear") := ⟨List.mem_of_getElem? (i := 491) (by decide +kernel), rfl⟩
theorem wf_B_265 : LkN (.fieldLinkNest "BrassYear" 265 "BrassYear$Suspicion" "fit" "[I" "BrassYear") := ⟨List.mem_of_getElem? (i := 489) (by decide +kernel), rfl⟩
theorem wf_B_268 : LkN (.fieldLinkNest "BrassYear" 268 "BrassYear$Orrery" "suspect" "I" "BrassYear") := ⟨List.mem_of_getElem? (i := 311) (by decide +kernel), rfl⟩
theorem wf_B_27 : Lk (.fieldLink "BrassYear" 27 "BrassYear" "draft" "LBrassYear$Orrery;") := ⟨List.mem_of_getElem? (i := 561) (by decide +kernel), rfl⟩
theorem wf_B_271 : LkN (.fieldLinkNest "BrassYear" 271 "BrassYear$Suspicion" "bestDay" "I" "BrassYear") := ⟨List.mem_of_getElem? (i := 493) (by decide +kernel), rfl⟩
theorem wf_B_274 : LkN (.fieldLinkNest "BrassYear" 274 "BrassYear$Suspicion" "bestLeft" "I" "BrassYear") := ⟨List.mem_of_getElem? (i := 495) (by decide +kernel), rfl⟩
theorem wf_B_285 : LkN (.fieldLinkNest "BrassYear" 285 "BrassYear$Game" "firstMove" "I" "BrassYear") := ⟨List.mem_of_getElem? (i := 526) (by decide +kernel), rfl⟩
theorem wf_B_292 : LkN (.fieldLinkNest "BrassYear" 292 "BrassYear$Chances" "weights" "[J" "BrassYear") := ⟨List.mem_of_getElem? (i := 543) (by decide +kernel), rfl⟩
theorem wf_B_30 : Lk (.fieldLink "BrassYear" 30 "BrassYear" "state" "[I") := ⟨List.mem_of_getElem? (i := 562) (by decide +kernel), rfl⟩
theorem wf_B_300 : LkN (.fieldLinkNest "BrassYear" 300 "BrassYear$Chances" "jerkWeight" "J" "BrassYear") := ⟨List.mem_of_getElem? (i := 546) (by decide +kernel), rfl⟩
theorem wf_B_310 : Lk (.fieldLink "BrassYear" 310 "BrassYear" "trialSlips" "I") := ⟨List.mem_of_getElem? (i := 564) (by decide +kernel), rfl⟩
theorem wf_B_324 : LkN (.fieldLinkNest "BrassYear" 324 "BrassYear$Orrery" "slipChance" "I" "BrassYear") := ⟨List.mem_of_getElem? (i := 272) (by decide +kernel), rfl⟩
theorem wf_B_34 : Lk (.fieldLink "BrassYear" 34 "BrassYear" "trial" "[I") := ⟨List.mem_of_getElem? (i := 563) (by decide +kernel), rfl⟩
theorem wf_B_353 : LkN (.fieldLinkNest "BrassYear" 353 "BrassYear$Past" "keptCount" "I" "BrassYear") := ⟨List.mem_of_getElem? (i := 364) (by decide +kernel), rfl⟩
theorem wf_B_359 : LkN (.fieldLinkNest "BrassYear" 359 "BrassYear$Past" "imageCount" "I" "BrassYear") := ⟨List.mem_of_getElem? (i := 367) (by decide +kernel), rfl⟩
theorem wf_B_369 : LkN (.fieldLinkNest "BrassYear" 369 "BrassYear$Orrery" "feastCount" "I" "BrassYear") := ⟨List.mem_of_getElem? (i := 286) (by decide +kernel), rfl⟩
theorem wf_B_385 : LkN (.fieldLinkNest "BrassYear" 385 "BrassYear$Orrery" "seenCount" "I" "BrassYear") := ⟨List.mem_of_getElem? (i := 315) (by decide +kernel), rfl⟩
theorem wf_B_40 : Lk (.fieldLink "BrassYear" 40 "BrassYear" "past" "LBrassYear$Past;") := ⟨List.mem_of_getElem? (i := 565) (by decide +kernel), rfl⟩
theorem wf_B_47 : Lk (.fieldLink "BrassYear" 47 "BrassYear" "calendar" "LBrassYear$Calendar;") := ⟨List.mem_of_getElem? (i := 566) (by decide +kernel), rfl⟩
theorem wf_B_54 : Lk (.fieldLink "BrassYear" 54 "BrassYear" "workOrder" "LBrassYear$WorkOrder;") := ⟨List.mem_of_getElem? (i := 567) (by decide +kernel), rfl⟩
theorem wf_B_61 : Lk (.fieldLink "BrassYear" 61 "BrassYear" "suspicion" "LBrassYear$Suspicion;") := ⟨List.mem_of_getElem? (i := 568) (by decide +kernel), rfl⟩
theorem wf_B_68 : Lk (.fieldLink "BrassYear" 68 "BrassYear" "game" "LBrassYear$Game;") := ⟨List.mem_of_getElem? (i := 569) (by decide +kernel), rfl⟩
theorem wf_B_75 : Lk (.fieldLink "BrassYear" 75 "BrassYear" "chances" "LBrassYear$Chances;") := ⟨List.mem_of_getElem? (i := 570) (by decide +kernel), rfl⟩
theorem wf_B_79 : Lk (.fieldLink "BrassYear" 79 "BrassYear" "tapeLength" "I") := ⟨List.mem_of_getElem? (i := 558) (by decide +kernel), rfl⟩
theorem wf_B_9 : Lk (.fieldLink "BrassYear" 9 "BrassYear" "tape" "[B") := ⟨List.mem_of_getElem? (i := 557) (by decide +kernel), rfl⟩
theorem wf_B_95 : Lk (.fieldLink "BrassYear" 95 "BrassYear" "lastFault" "I") := ⟨List.mem_of_getElem? (i := 571) (by decide +kernel), rfl⟩
theorem wf_C_108 : LkN (.fieldLinkNest "BrassYear$Calendar" 108 "BrassYear$Wheel" "by" "I" "BrassYear") := ⟨List.mem_of_getElem? (i := 242) (by decide +kernel), rfl⟩
theorem wf_C_11 : Lk (.fieldLink "BrassYear$Calendar" 11 "BrassYear$Calendar" "courses" "[LBrassYear$Course;") := ⟨List.mem_of_getElem? (i := 419) (by decide +kernel), rfl⟩
theorem wf_C_130 : Lk (.fieldLink "BrassYear$Calendar" 130 "BrassYear$Calendar" "bestBy" "I") := ⟨List.mem_of_getElem? (i := 426) (by decide +kernel), rfl⟩
theorem wf_C_133 : Lk (.fieldLink "BrassYear$Calendar" 133 "BrassYear$Calendar" "bestByDays" "I") := ⟨List.mem_of_getElem? (i := 428) (by decide +kernel), rfl⟩
theorem wf_C_20 : Lk (.fieldLink "BrassYear$Calendar" 20 "BrassYear$Calendar" "other" "LBrassYear$Wheel;") := ⟨List.mem_of_getElem? (i := 420) (by decide +kernel), rfl⟩
theorem wf_C_24 : Lk (.fieldLink "BrassYear$Calendar" 24 "BrassYear$Calendar" "reached" "[I") := ⟨List.mem_of_getElem? (i := 421) (by decide +kernel), rfl⟩
theorem wf_C_28 : Lk (.fieldLink "BrassYear$Calendar" 28 "BrassYear$Calendar" "leap" "[I") := ⟨List.mem_of_getElem? (i := 422) (by decide +kernel), rfl⟩
theorem wf_C_31 : Lk (.fieldLink "BrassYear$Calendar" 31 "BrassYear$Calendar" "spare" "[I") := ⟨List.mem_of_getElem? (i := 423) (by decide +kernel), rfl⟩
theorem wf_C_35 : LkN (.fieldLinkNest "BrassYear$Calendar" 35 "BrassYear$Orrery" "wheelCount" "I" "BrassYear") := ⟨List.mem_of_getElem? (i := 273) (by decide +kernel), rfl⟩
theorem wf_C_45 : Lk (.fieldLink "BrassYear$Calendar" 45 "BrassYear$Calendar" "orrery" "LBrassYear$Orrery;") := ⟨List.mem_of_getElem? (i := 424) (by decide +kernel), rfl⟩
theorem wf_C_49 : Lk (.fieldLink "BrassYear$Calendar" 49 "BrassYear$Calendar" "now" "[I") := ⟨List.mem_of_getElem? (i := 425) (by decide +kernel), rfl⟩
theorem wf_C_52 : LkN (.fieldLinkNest "BrassYear$Calendar" 52 "BrassYear$Orrery" "wheels" "[LBrassYear$Wheel;" "BrassYear") := ⟨List.mem_of_getElem? (i := 280) (by decide +kernel), rfl⟩
theorem wf_C_86 : LkN (.fieldLinkNest "BrassYear$Calendar" 86 "BrassYear$Orrery" "feastCount" "I" "BrassYear") := ⟨List.mem_of_getElem? (i := 285) (by decide +kernel), rfl⟩
theorem wf_C_97 : LkN (.fieldLinkNest "BrassYear$Calendar" 97 "BrassYear$Wheel" "teeth" "I" "BrassYear") := ⟨List.mem_of_getElem? (i := 236) (by decide +kernel), rfl⟩
theorem wf_G_11 : Lk (.fieldLink "BrassYear$Game" 11 "BrassYear$Game" "rows" "[[I") := ⟨List.mem_of_getElem? (i := 522) (by decide +kernel), rfl⟩
theorem wf_G_16 : Lk (.fieldLink "BrassYear$Game" 16 "BrassYear$Game" "orrery" "LBrassYear$Orrery;") := ⟨List.mem_of_getElem? (i := 523) (by decide +kernel), rfl⟩
theorem wf_G_20 : Lk (.fieldLink "BrassYear$Game" 20 "BrassYear$Game" "feast" "I") := ⟨List.mem_of_getElem? (i := 524) (by decide +kernel), rfl⟩
theorem wf_G_24 : Lk (.fieldLink "BrassYear$Game" 24 "BrassYear$Game" "firstMove" "I") := ⟨List.mem_of_getElem? (i := 525) (by decide +kernel), rfl⟩
theorem wf_H_15 : Lk (.fieldLink "BrassYear$Chances" 15 "BrassYear$Chances" "coming" "[J") := ⟨List.mem_of_getElem? (i := 544) (by decide +kernel), rfl⟩
theorem wf_H_24 : Lk (.fieldLink "BrassYear$Chances" 24 "BrassYear$Chances" "jerkWeight" "J") := ⟨List.mem_of_getElem? (i := 545) (by decide +kernel), rfl⟩
theorem wf_H_28 : Lk (.fieldLink "BrassYear$Chances" 28 "BrassYear$Chances" "whole" "J") := ⟨List.mem_of_getElem? (i := 547) (by decide +kernel), rfl⟩
theorem wf_H_31 : LkN (.fieldLinkNest "BrassYear$Chances" 31 "BrassYear$Orrery" "wheels" "[LBrassYear$Wheel;" "BrassYear") := ⟨List.mem_of_getElem? (i := 278) (by decide +kernel), rfl⟩
theorem wf_H_43 : LkN (.fieldLinkNest "BrassYear$Chances" 43 "BrassYear$Orrery" "slipChance" "I" "BrassYear") := ⟨List.mem_of_getElem? (i := 270) (by decide +kernel), rfl⟩
theorem wf_H_53 : LkN (.fieldLinkNest "BrassYear$Chances" 53 "BrassYear$Wheel" "teeth" "I" "BrassYear") := ⟨List.mem_of_getElem? (i := 233) (by decide +kernel), rfl⟩
theorem wf_H_56 : LkN (.fieldLinkNest "BrassYear$Chances" 56 "BrassYear$Wheel" "by" "I" "BrassYear") := ⟨List.mem_of_getElem? (i := 239) (by decide +kernel), rfl⟩
theorem wf_H_9 : Lk (.fieldLink "BrassYear$Chances" 9 "BrassYear$Chances" "weights" "[J") := ⟨List.mem_of_getElem? (i := 542) (by decide +kernel), rfl⟩
theorem wf_K_15 : Lk (.fieldLink "BrassYear$WorkOrder" 15 "BrassYear$WorkOrder" "order" "[I") := ⟨List.mem_of_getElem? (i := 456) (by decide +kernel), rfl⟩
theorem wf_K_18 : Lk (.fieldLink "BrassYear$WorkOrder" 18 "BrassYear$WorkOrder" "best" "[I") := ⟨List.mem_of_getElem? (i := 457) (by decide +kernel), rfl⟩
theorem wf_K_21 : Lk (.fieldLink "BrassYear$WorkOrder" 21 "BrassYear$WorkOrder" "orrery" "LBrassYear$Orrery;") := ⟨List.mem_of_getElem? (i := 463) (by decide +kernel), rfl⟩
theorem wf_K_25 : Lk (.fieldLink "BrassYear$WorkOrder" 25 "BrassYear$WorkOrder" "bestWorth" "I") := ⟨List.mem_of_getElem? (i := 459) (by decide +kernel), rfl⟩
theorem wf_K_29 : Lk (.fieldLink "BrassYear$WorkOrder" 29 "BrassYear$WorkOrder" "bestInTime" "I") := ⟨List.mem_of_getElem? (i := 461) (by decide +kernel), rfl⟩
theorem wf_K_32 : LkN (.fieldLinkNest "BrassYear$WorkOrder" 32 "BrassYear$Orrery" "workCount" "I" "BrassYear") := ⟨List.mem_of_getElem? (i := 289) (by decide +kernel), rfl⟩
theorem wf_K_37 : LkN (.fieldLinkNest "BrassYear$WorkOrder" 37 "BrassYear$Orrery" "workFeast" "[I" "BrassYear") := ⟨List.mem_of_getElem? (i := 301) (by decide +kernel), rfl⟩
theorem wf_K_56 : LkN (.fieldLinkNest "BrassYear$WorkOrder" 56 "BrassYear$Orrery" "workDays" "[I" "BrassYear") := ⟨List.mem_of_getElem? (i := 293) (by decide +kernel), rfl⟩
theorem wf_K_59 : LkN (.fieldLinkNest "BrassYear$WorkOrder" 59 "BrassYear$Orrery" "workWorth" "[I" "BrassYear") := ⟨List.mem_of_getElem? (i := 297) (by decide +kernel), rfl⟩
theorem wf_K_9 : Lk (.fieldLink "BrassYear$WorkOrder" 9 "BrassYear$WorkOrder" "due" "[I") := ⟨List.mem_of_getElem? (i := 455) (by decide +kernel), rfl⟩
theorem wf_O_109 : LkN (.fieldLinkNest "BrassYear$Orrery" 109 "BrassYear$Wheel" "by" "I" "BrassYear") := ⟨List.mem_of_getElem? (i := 243) (by decide +kernel), rfl⟩
theorem wf_O_11 : Lk (.fieldLink "BrassYear$Orrery" 11 "BrassYear$Orrery" "wheels" "[LBrassYear$Wheel;") := ⟨List.mem_of_getElem? (i := 277) (by decide +kernel), rfl⟩
theorem wf_O_17 : Lk (.fieldLink "BrassYear$Orrery" 17 "BrassYear$Orrery" "feastTeeth" "[I") := ⟨List.mem_of_getElem? (i := 287) (by decide +kernel), rfl⟩
theorem wf_O_21 : Lk (.fieldLink "BrassYear$Orrery" 21 "BrassYear$Orrery" "workDays" "[I") := ⟨List.mem_of_getElem? (i := 292) (by decide +kernel), rfl⟩
theorem wf_O_24 : Lk (.fieldLink "BrassYear$Orrery" 24 "BrassYear$Orrery" "workWorth" "[I") := ⟨List.mem_of_getElem? (i := 296) (by decide +kernel), rfl⟩
theorem wf_O_27 : Lk (.fieldLink "BrassYear$Orrery" 27 "BrassYear$Orrery" "workFeast" "[I") := ⟨List.mem_of_getElem? (i := 300) (by decide +kernel), rfl⟩
theorem wf_O_30 : Lk (.fieldLink "BrassYear$Orrery" 30 "BrassYear$Orrery" "skyEvery" "[I") := ⟨List.mem_of_getElem? (i := 304) (by decide +kernel), rfl⟩
theorem wf_O_33 : Lk (.fieldLink "BrassYear$Orrery" 33 "BrassYear$Orrery" "skyFrom" "[I") := ⟨List.mem_of_getElem? (i := 306) (by decide +kernel), rfl⟩
theorem wf_O_36 : Lk (.fieldLink "BrassYear$Orrery" 36 "BrassYear$Orrery" "suspect" "I") := ⟨List.mem_of_getElem? (i := 308) (by decide +kernel), rfl⟩
theorem wf_O_40 : Lk (.fieldLink "BrassYear$Orrery" 40 "BrassYear$Orrery" "seenDay" "[I") := ⟨List.mem_of_getElem? (i := 316) (by decide +kernel), rfl⟩
theorem wf_O_43 : Lk (.fieldLink "BrassYear$Orrery" 43 "BrassYear$Orrery" "seenJerked" "[Z") := ⟨List.mem_of_getElem? (i := 319) (by decide +kernel), rfl⟩
theorem wf_O_48 : Lk (.fieldLink "BrassYear$Orrery" 48 "BrassYear$Orrery" "oilAtFirst" "I") := ⟨List.mem_of_getElem? (i := 266) (by decide +kernel), rfl⟩
theorem wf_O_51 : Lk (.fieldLink "BrassYear$Orrery" 51 "BrassYear$Orrery" "slipChance" "I") := ⟨List.mem_of_getElem? (i := 269) (by decide +kernel), rfl⟩
theorem wf_O_54 : Lk (.fieldLink "BrassYear$Orrery" 54 "BrassYear$Orrery" "wheelCount" "I") := ⟨List.mem_of_getElem? (i := 274) (by decide +kernel), rfl⟩
theorem wf_O_57 : Lk (.fieldLink "BrassYear$Orrery" 57 "BrassYear$Orrery" "feastCount" "I") := ⟨List.mem_of_getElem? (i := 283) (by decide +kernel), rfl⟩
theorem wf_O_60 : Lk (.fieldLink "BrassYear$Orrery" 60 "BrassYear$Orrery" "workCount" "I") := ⟨List.mem_of_getElem? (i := 288) (by decide +kernel), rfl⟩
theorem wf_O_63 : Lk (.fieldLink "BrassYear$Orrery" 63 "BrassYear$Orrery" "seenCount" "I") := ⟨List.mem_of_getElem? (i := 312) (by decide +kernel), rfl⟩
theorem wf_O_72 : LkN (.fieldLinkNest "BrassYear$Orrery" 72 "BrassYear$Wheel" "first" "I" "BrassYear") := ⟨List.mem_of_getElem? (i := 245) (by decide +kernel), rfl⟩
theorem wf_O_83 : LkN (.fieldLinkNest "BrassYear$Orrery" 83 "BrassYear$Wheel" "goneCount" "I" "BrassYear") := ⟨List.mem_of_getElem? (i := 250) (by decide +kernel), rfl⟩
theorem wf_P_11 : Lk (.fieldLink "BrassYear$Past" 11 "BrassYear$Past" "kept" "[I") := ⟨List.mem_of_getElem? (i := 361) (by decide +kernel), rfl⟩
theorem wf_P_15 : Lk (.fieldLink "BrassYear$Past" 15 "BrassYear$Past" "images" "[I") := ⟨List.mem_of_getElem? (i := 362) (by decide +kernel), rfl⟩
theorem wf_P_18 : Lk (.fieldLink "BrassYear$Past" 18 "BrassYear$Past" "keptCount" "I") := ⟨List.mem_of_getElem? (i := 363) (by decide +kernel), rfl⟩
theorem wf_P_22 : Lk (.fieldLink "BrassYear$Past" 22 "BrassYear$Past" "imageCount" "I") := ⟨List.mem_of_getElem? (i := 366) (by decide +kernel), rfl⟩
theorem wf_P_25 : Lk (.fieldLink "BrassYear$Past" 25 "BrassYear$Past" "place" "I") := ⟨List.mem_of_getElem? (i := 365) (by decide +kernel), rfl⟩
theorem wf_R_11 : Lk (.fieldLink "BrassYear$Reader" 11 "BrassYear$Reader" "nameWord" "[J") := ⟨List.mem_of_getElem? (i := 176) (by decide +kernel), rfl⟩
theorem wf_R_138 : LkN (.fieldLinkNest "BrassYear$Reader" 138 "BrassYear$Orrery" "oilAtFirst" "I" "BrassYear") := ⟨List.mem_of_getElem? (i := 268) (by decide +kernel), rfl⟩
theorem wf_R_143 : LkN (.fieldLinkNest "BrassYear$Reader" 143 "BrassYear$Orrery" "slipChance" "I" "BrassYear") := ⟨List.mem_of_getElem? (i := 271) (by decide +kernel), rfl⟩
theorem wf_R_15 : Lk (.fieldLink "BrassYear$Reader" 15 "BrassYear$Reader" "nameSort" "[I") := ⟨List.mem_of_getElem? (i := 177) (by decide +kernel), rfl⟩
theorem wf_R_159 : LkN (.fieldLinkNest "BrassYear$Reader" 159 "BrassYear$Orrery" "wheels" "[LBrassYear$Wheel;" "BrassYear") := ⟨List.mem_of_getElem? (i := 281) (by decide +kernel), rfl⟩
theorem wf_R_181 : LkN (.fieldLinkNest "BrassYear$Reader" 181 "BrassYear$Wheel" "goneCount" "I" "BrassYear") := ⟨List.mem_of_getElem? (i := 248) (by decide +kernel), rfl⟩
theorem wf_R_184 : Lk (.fieldLink "BrassYear$Reader" 184 "BrassYear$Reader" "lastAt" "I") := ⟨List.mem_of_getElem? (i := 174) (by decide +kernel), rfl⟩
theorem wf_R_187 : LkN (.fieldLinkNest "BrassYear$Reader" 187 "BrassYear$Orrery" "suspect" "I" "BrassYear") := ⟨List.mem_of_getElem? (i := 310) (by decide +kernel), rfl⟩
theorem wf_R_19 : Lk (.fieldLink "BrassYear$Reader" 19 "BrassYear$Reader" "nameNumber" "[I") := ⟨List.mem_of_getElem? (i := 178) (by decide +kernel), rfl⟩
theorem wf_R_190 : LkN (.fieldLinkNest "BrassYear$Reader" 190 "BrassYear$Wheel" "teeth" "I" "BrassYear") := ⟨List.mem_of_getElem? (i := 234) (by decide +kernel), rfl⟩
theorem wf_R_201 : LkN (.fieldLinkNest "BrassYear$Reader" 201 "BrassYear$Orrery" "feastCount" "I" "BrassYear") := ⟨List.mem_of_getElem? (i := 284) (by decide +kernel), rfl⟩
theorem wf_R_214 : LkN (.fieldLinkNest "BrassYear$Reader" 214 "BrassYear$Orrery" "workCount" "I" "BrassYear") := ⟨List.mem_of_getElem? (i := 290) (by decide +kernel), rfl⟩
theorem wf_R_22 : Lk (.fieldLink "BrassYear$Reader" 22 "BrassYear$Reader" "text" "[B") := ⟨List.mem_of_getElem? (i := 162) (by decide +kernel), rfl⟩
theorem wf_R_221 : LkN (.fieldLinkNest "BrassYear$Reader" 221 "BrassYear$Orrery" "workDays" "[I" "BrassYear") := ⟨List.mem_of_getElem? (i := 295) (by decide +kernel), rfl⟩
theorem wf_R_224 : LkN (.fieldLinkNest "BrassYear$Reader" 224 "BrassYear$Orrery" "workWorth" "[I" "BrassYear") := ⟨List.mem_of_getElem? (i := 299) (by decide +kernel), rfl⟩
theorem wf_R_227 : LkN (.fieldLinkNest "BrassYear$Reader" 227 "BrassYear$Orrery" "workFeast" "[I" "BrassYear") := ⟨List.mem_of_getElem? (i := 303) (by decide +kernel), rfl⟩
theorem wf_R_237 : LkN (.fieldLinkNest "BrassYear$Reader" 237 "BrassYear$Orrery" "skyEvery" "[I" "BrassYear") := ⟨List.mem_of_getElem? (i := 305) (by decide +kernel), rfl⟩
theorem wf_R_240 : LkN (.fieldLinkNest "BrassYear$Reader" 240 "BrassYear$Orrery" "skyFrom" "[I" "BrassYear") := ⟨List.mem_of_getElem? (i := 307) (by decide +kernel), rfl⟩
theorem wf_R_243 : LkN (.fieldLinkNest "BrassYear$Reader" 243 "BrassYear$Orrery" "seenCount" "I" "BrassYear") := ⟨List.mem_of_getElem? (i := 314) (by decide +kernel), rfl⟩
theorem wf_R_248 : LkN (.fieldLinkNest "BrassYear$Reader" 248 "BrassYear$Orrery" "seenDay" "[I" "BrassYear") := ⟨List.mem_of_getElem? (i := 318) (by decide +kernel), rfl⟩
theorem wf_R_251 : LkN (.fieldLinkNest "BrassYear$Reader" 251 "BrassYear$Orrery" "seenJerked" "[Z" "BrassYear") := ⟨List.mem_of_getElem? (i := 321) (by decide +kernel), rfl⟩
theorem wf_R_255 : Lk (.fieldLink "BrassYear$Reader" 255 "BrassYear$Reader" "number" "I") := ⟨List.mem_of_getElem? (i := 172) (by decide +kernel), rfl⟩
theorem wf_R_261 : Lk (.fieldLink "BrassYear$Reader" 261 "BrassYear$Reader" "word" "J") := ⟨List.mem_of_getElem? (i := 173) (by decide +kernel), rfl⟩
theorem wf_R_32 : Lk (.fieldLink "BrassYear$Reader" 32 "BrassYear$Reader" "end" "I") := ⟨List.mem_of_getElem? (i := 163) (by decide +kernel), rfl⟩
theorem wf_R_36 : Lk (.fieldLink "BrassYear$Reader" 36 "BrassYear$Reader" "draft" "LBrassYear$Orrery;") := ⟨List.mem_of_getElem? (i := 164) (by decide +kernel), rfl⟩
theorem wf_R_45 : Lk (.fieldLink "BrassYear$Reader" 45 "BrassYear$Reader" "brassTold" "Z") := ⟨List.mem_of_getElem? (i := 165) (by decide +kernel), rfl⟩
theorem wf_R_49 : Lk (.fieldLink "BrassYear$Reader" 49 "BrassYear$Reader" "fault" "I") := ⟨List.mem_of_getElem? (i := 166) (by decide +kernel), rfl⟩
theorem wf_R_52 : Lk (.fieldLink "BrassYear$Reader" 52 "BrassYear$Reader" "place" "I") := ⟨List.mem_of_getElem? (i := 167) (by decide +kernel), rfl⟩
theorem wf_R_55 : Lk (.fieldLink "BrassYear$Reader" 55 "BrassYear$Reader" "behind" "I") := ⟨List.mem_of_getElem? (i := 170) (by decide +kernel), rfl⟩
theorem wf_R_58 : Lk (.fieldLink "BrassYear$Reader" 58 "BrassYear$Reader" "names" "I") := ⟨List.mem_of_getElem? (i := 175) (by decide +kernel), rfl⟩
theorem wf_R_67 : Lk (.fieldLink "BrassYear$Reader" 67 "BrassYear$Reader" "token" "I") := ⟨List.mem_of_getElem? (i := 171) (by decide +kernel), rfl⟩
theorem wf_R_70 : Lk (.fieldLink "BrassYear$Reader" 70 "BrassYear$Reader" "at" "I") := ⟨List.mem_of_getElem? (i := 169) (by decide +kernel), rfl⟩
theorem wf_R_77 : LkN (.fieldLinkNest "BrassYear$Reader" 77 "BrassYear$Orrery" "wheelCount" "I" "BrassYear") := ⟨List.mem_of_getElem? (i := 275) (by decide +kernel), rfl⟩
theorem wf_S_100 : LkN (.fieldLinkNest "BrassYear$Suspicion" 100 "BrassYear$Orrery" "seenCount" "I" "BrassYear") := ⟨List.mem_of_getElem? (i := 313) (by decide +kernel), rfl⟩
theorem wf_S_103 : LkN (.fieldLinkNest "BrassYear$Suspicion" 103 "BrassYear$Orrery" "seenDay" "[I" "BrassYear") := ⟨List.mem_of_getElem? (i := 317) (by decide +kernel), rfl⟩
theorem wf_S_109 : LkN (.fieldLinkNest "BrassYear$Suspicion" 109 "BrassYear$Orrery" "seenJerked" "[Z" "BrassYear") := ⟨List.mem_of_getElem? (i := 320) (by decide +kernel), rfl⟩
theorem wf_S_113 : Lk (.fieldLink "BrassYear$Suspicion" 113 "BrassYear$Suspicion" "bestDay" "I") := ⟨List.mem_of_getElem? (i := 492) (by decide +kernel), rfl⟩
theorem wf_S_116 : Lk (.fieldLink "BrassYear$Suspicion" 116 "BrassYear$Suspicion" "bestLeft" "I") := ⟨List.mem_of_getElem? (i := 494) (by decide +kernel), rfl⟩
theorem wf_S_12 : Lk (.fieldLink "BrassYear$Suspicion" 12 "BrassYear$Suspicion" "guess" "LBrassYear$Wheel;") := ⟨List.mem_of_getElem? (i := 485) (by decide +kernel), rfl⟩
theorem wf_S_18 : Lk (.fieldLink "BrassYear$Suspicion" 18 "BrassYear$Suspicion" "jerksEarly" "[J") := ⟨List.mem_of_getElem? (i := 486) (by decide +kernel), rfl⟩
theorem wf_S_22 : Lk (.fieldLink "BrassYear$Suspicion" 22 "BrassYear$Suspicion" "jerksLate" "[J") := ⟨List.mem_of_getElem? (i := 487) (by decide +kernel), rfl⟩
theorem wf_S_25 : Lk (.fieldLink "BrassYear$Suspicion" 25 "BrassYear$Suspicion" "fit" "[I") := ⟨List.mem_of_getElem? (i := 488) (by decide +kernel), rfl⟩
theorem wf_S_29 : Lk (.fieldLink "BrassYear$Suspicion" 29 "BrassYear$Suspicion" "weighed" "Z") := ⟨List.mem_of_getElem? (i := 496) (by decide +kernel), rfl⟩
theorem wf_S_33 : Lk (.fieldLink "BrassYear$Suspicion" 33 "BrassYear$Suspicion" "fitCount" "I") := ⟨List.mem_of_getElem? (i := 490) (by decide +kernel), rfl⟩
theorem wf_S_37 : LkN (.fieldLinkNest "BrassYear$Suspicion" 37 "BrassYear$Orrery" "wheels" "[LBrassYear$Wheel;" "BrassYear") := ⟨List.mem_of_getElem? (i := 279) (by decide +kernel), rfl⟩
theorem wf_S_43 : LkN (.fieldLinkNest "BrassYear$Suspicion" 43 "BrassYear$Orrery" "suspect" "I" "BrassYear") := ⟨List.mem_of_getElem? (i := 309) (by decide +kernel), rfl⟩
theorem wf_S_46 : LkN (.fieldLinkNest "BrassYear$Suspicion" 46 "BrassYear$Wheel" "teeth" "I" "BrassYear") := ⟨List.mem_of_getElem? (i := 232) (by decide +kernel), rfl⟩
theorem wf_S_57 : LkN (.fieldLinkNest "BrassYear$Suspicion" 57 "BrassYear$Orrery" "oilAtFirst" "I" "BrassYear") := ⟨List.mem_of_getElem? (i := 267) (by decide +kernel), rfl⟩
theorem wf_S_71 : LkN (.fieldLinkNest "BrassYear$Suspicion" 71 "BrassYear$Wheel" "first" "I" "BrassYear") := ⟨List.mem_of_getElem? (i := 246) (by decide +kernel), rfl⟩
theorem wf_S_78 : LkN (.fieldLinkNest "BrassYear$Suspicion" 78 "BrassYear$Wheel" "by" "I" "BrassYear") := ⟨List.mem_of_getElem? (i := 240) (by decide +kernel), rfl⟩
theorem wf_U_15 : Lk (.fieldLink "BrassYear$Course" 15 "BrassYear$Course" "placeOf" "[I") := ⟨List.mem_of_getElem? (i := 395) (by decide +kernel), rfl⟩
theorem wf_U_18 : Lk (.fieldLink "BrassYear$Course" 18 "BrassYear$Course" "jerksBefore" "[I") := ⟨List.mem_of_getElem? (i := 396) (by decide +kernel), rfl⟩
theorem wf_U_21 : LkN (.fieldLinkNest "BrassYear$Course" 21 "BrassYear$Wheel" "kind" "I" "BrassYear") := ⟨List.mem_of_getElem? (i := 229) (by decide +kernel), rfl⟩
theorem wf_U_27 : Lk (.fieldLink "BrassYear$Course" 27 "BrassYear$Course" "kind" "I") := ⟨List.mem_of_getElem? (i := 399) (by decide +kernel), rfl⟩
theorem wf_U_28 : Lk (.fieldLink "BrassYear$Course" 28 "BrassYear$Course" "oilLeft" "I") := ⟨List.mem_of_getElem? (i := 400) (by decide +kernel), rfl⟩
theorem wf_U_31 : Lk (.fieldLink "BrassYear$Course" 31 "BrassYear$Course" "early" "I") := ⟨List.mem_of_getElem? (i := 401) (by decide +kernel), rfl⟩
theorem wf_U_40 : Lk (.fieldLink "BrassYear$Course" 40 "BrassYear$Course" "length" "I") := ⟨List.mem_of_getElem? (i := 397) (by decide +kernel), rfl⟩
theorem wf_U_43 : LkN (.fieldLinkNest "BrassYear$Course" 43 "BrassYear$Wheel" "by" "I" "BrassYear") := ⟨List.mem_of_getElem? (i := 238) (by decide +kernel), rfl⟩
theorem wf_U_67 : Lk (.fieldLink "BrassYear$Course" 67 "BrassYear$Course" "rejoin" "I") := ⟨List.mem_of_getElem? (i := 398) (by decide +kernel), rfl⟩
theorem wf_U_9 : Lk (.fieldLink "BrassYear$Course" 9 "BrassYear$Course" "teeth" "[I") := ⟨List.mem_of_getElem? (i := 394) (by decide +kernel), rfl⟩
theorem wf_W_15 : Lk (.fieldLink "BrassYear$Wheel" 15 "BrassYear$Wheel" "teeth" "I") := ⟨List.mem_of_getElem? (i := 231) (by decide +kernel), rfl⟩
theorem wf_W_18 : Lk (.fieldLink "BrassYear$Wheel" 18 "BrassYear$Wheel" "by" "I") := ⟨List.mem_of_getElem? (i := 237) (by decide +kernel), rfl⟩
theorem wf_W_21 : Lk (.fieldLink "BrassYear$Wheel" 21 "BrassYear$Wheel" "first" "I") := ⟨List.mem_of_getElem? (i := 244) (by decide +kernel), rfl⟩
theorem wf_W_24 : Lk (.fieldLink "BrassYear$Wheel" 24 "BrassYear$Wheel" "goneCount" "I") := ⟨List.mem_of_getElem? (i := 247) (by decide +kernel), rfl⟩
theorem wf_W_27 : Lk (.fieldLink "BrassYear$Wheel" 27 "BrassYear$Wheel" "gone" "J") := ⟨List.mem_of_getElem? (i := 251) (by decide +kernel), rfl⟩
theorem wf_W_9 : Lk (.fieldLink "BrassYear$Wheel" 9 "BrassYear$Wheel" "kind" "I") := ⟨List.mem_of_getElem? (i := 228) (by decide +kernel), rfl⟩
theorem wf_m_102 : Lk (.fieldLink "BrassYearModel" 102 "BrassYearModel" "word" "J") := ⟨List.mem_of_getElem? (i := 1414) (by decide +kernel), rfl⟩
theorem wf_m_109 : Lk (.fieldLink "BrassYearModel" 109 "BrassYearModel" "number" "I") := ⟨List.mem_of_getElem? (i := 1411) (by decide +kernel), rfl⟩
theorem wf_m_112 : Lk (.fieldLink "BrassYearModel" 112 "BrassYearModel" "fault" "I") := ⟨List.mem_of_getElem? (i := 1412) (by decide +kernel), rfl⟩
theorem wf_m_115 : Lk (.fieldLink "BrassYearModel" 115 "BrassYearModel" "wrongAt" "I") := ⟨List.mem_of_getElem? (i := 1413) (by decide +kernel), rfl⟩
theorem wf_m_13 : Lk (.fieldLink "BrassYearModel" 13 "BrassYearModel" "tape" "[B") := ⟨List.mem_of_getElem? (i := 1405) (by decide +kernel), rfl⟩
theorem wf_m_166 : Lk (.fieldLink "BrassYearModel" 166 "BrassYearModel" "read" "LBrassYearModel$Orrery;") := ⟨List.mem_of_getElem? (i := 1404) (by decide +kernel), rfl⟩
theorem wf_m_17 : Lk (.fieldLink "BrassYearModel" 17 "BrassYearModel" "v" "[I") := ⟨List.mem_of_getElem? (i := 1415) (by decide +kernel), rfl⟩
theorem wf_m_170 : LkN (.fieldLinkNest "BrassYearModel" 170 "BrassYearModel$Orrery" "oil" "I" "BrassYearModel") := ⟨List.mem_of_getElem? (i := 1532) (by decide +kernel), rfl⟩
theorem wf_m_183 : LkN (.fieldLinkNest "BrassYearModel" 183 "BrassYearModel$Orrery" "name" "[J" "BrassYearModel") := ⟨List.mem_of_getElem? (i := 1574) (by decide +kernel), rfl⟩
theorem wf_m_187 : LkN (.fieldLinkNest "BrassYearModel" 187 "BrassYearModel$Orrery" "names" "I" "BrassYearModel") := ⟨List.mem_of_getElem? (i := 1544) (by decide +kernel), rfl⟩
theorem wf_m_190 : LkN (.fieldLinkNest "BrassYearModel" 190 "BrassYearModel$Orrery" "nameSort" "[I" "BrassYearModel") := ⟨List.mem_of_getElem? (i := 1576) (by decide +kernel), rfl⟩
theorem wf_m_193 : LkN (.fieldLinkNest "BrassYearModel" 193 "BrassYearModel$Orrery" "numberOf" "[I" "BrassYearModel") := ⟨List.mem_of_getElem? (i := 1578) (by decide +kernel), rfl⟩
theorem wf_m_205 : LkN (.fieldLinkNest "BrassYearModel" 205 "BrassYearModel$Orrery" "wheels" "I" "BrassYearModel") := ⟨List.mem_of_getElem? (i := 1534) (by decide +kernel), rfl⟩
theorem wf_m_21 : Lk (.fieldLink "BrassYearModel" 21 "BrassYearModel" "x" "[I") := ⟨List.mem_of_getElem? (i := 1416) (by decide +kernel), rfl⟩
theorem wf_m_239 : LkN (.fieldLinkNest "BrassYearModel" 239 "BrassYearModel$Orrery" "slips" "I" "BrassYearModel") := ⟨List.mem_of_getElem? (i := 1533) (by decide +kernel), rfl⟩
theorem wf_m_24 : Lk (.fieldLink "BrassYearModel" 24 "BrassYearModel" "past" "[I") := ⟨List.mem_of_getElem? (i := 1417) (by decide +kernel), rfl⟩
theorem wf_m_266 : LkN (.fieldLinkNest "BrassYearModel" 266 "BrassYearModel$Orrery" "kind" "[I" "BrassYearModel") := ⟨List.mem_of_getElem? (i := 1546) (by decide +kernel), rfl⟩
theorem wf_m_269 : LkN (.fieldLinkNest "BrassYearModel" 269 "BrassYearModel$Orrery" "teeth" "[I" "BrassYearModel") := ⟨List.mem_of_getElem? (i := 1548) (by decide +kernel), rfl⟩
theorem wf_m_27 : Lk (.fieldLink "BrassYearModel" 27 "BrassYearModel" "kept" "[I") := ⟨List.mem_of_getElem? (i := 1418) (by decide +kernel), rfl⟩
theorem wf_m_271 : LkN (.fieldLinkNest "BrassYearModel" 271 "BrassYearModel$Orrery" "by" "[I" "BrassYearModel") := ⟨List.mem_of_getElem? (i := 1550) (by decide +kernel), rfl⟩
theorem wf_m_273 : LkN (.fieldLinkNest "BrassYearModel" 273 "BrassYearModel$Orrery" "at" "[I" "BrassYearModel") := ⟨List.mem_of_getElem? (i := 1552) (by decide +kernel), rfl⟩
theorem wf_m_278 : LkN (.fieldLinkNest "BrassYearModel" 278 "BrassYearModel$Orrery" "suspect" "I" "BrassYearModel") := ⟨List.mem_of_getElem? (i := 1540) (by decide +kernel), rfl⟩
theorem wf_m_284 : LkN (.fieldLinkNest "BrassYearModel" 284 "BrassYearModel$Orrery" "gone" "[J" "BrassYearModel") := ⟨List.mem_of_getElem? (i := 1554) (by decide +kernel), rfl⟩
theorem wf_m_286 : LkN (.fieldLinkNest "BrassYearModel" 286 "BrassYearModel$Orrery" "gones" "I" "BrassYearModel") := ⟨List.mem_of_getElem? (i := 1535) (by decide +kernel), rfl⟩
theorem wf_m_289 : LkN (.fieldLinkNest "BrassYearModel" 289 "BrassYearModel$Orrery" "feasts" "I" "BrassYearModel") := ⟨List.mem_of_getElem? (i := 1536) (by decide +kernel), rfl⟩
theorem wf_m_295 : LkN (.fieldLinkNest "BrassYearModel" 295 "BrassYearModel$Orrery" "feast" "[I" "BrassYearModel") := ⟨List.mem_of_getElem? (i := 1556) (by decide +kernel), rfl⟩
theorem wf_m_297 : LkN (.fieldLinkNest "BrassYearModel" 297 "BrassYearModel$Orrery" "of" "[I" "BrassYearModel") := ⟨List.mem_of_getElem? (i := 1558) (by decide +kernel), rfl⟩
theorem wf_m_30 : Lk (.fieldLink "BrassYearModel" 30 "BrassYearModel" "met" "[I") := ⟨List.mem_of_getElem? (i := 1422) (by decide +kernel), rfl⟩
theorem wf_m_300 : LkN (.fieldLinkNest "BrassYearModel" 300 "BrassYearModel$Orrery" "works" "I" "BrassYearModel") := ⟨List.mem_of_getElem? (i := 1537) (by decide +kernel), rfl⟩
theorem wf_m_310 : LkN (.fieldLinkNest "BrassYearModel" 310 "BrassYearModel$Orrery" "takes" "[I" "BrassYearModel") := ⟨List.mem_of_getElem? (i := 1564) (by decide +kernel), rfl⟩
theorem wf_m_312 : LkN (.fieldLinkNest "BrassYearModel" 312 "BrassYearModel$Orrery" "worth" "[I" "BrassYearModel") := ⟨List.mem_of_getElem? (i := 1566) (by decide +kernel), rfl⟩
theorem wf_m_314 : LkN (.fieldLinkNest "BrassYearModel" 314 "BrassYearModel$Orrery" "till" "[I" "BrassYearModel") := ⟨List.mem_of_getElem? (i := 1568) (by decide +kernel), rfl⟩
theorem wf_m_317 : LkN (.fieldLinkNest "BrassYearModel" 317 "BrassYearModel$Orrery" "every" "[I" "BrassYearModel") := ⟨List.mem_of_getElem? (i := 1560) (by decide +kernel), rfl⟩
theorem wf_m_323 : LkN (.fieldLinkNest "BrassYearModel" 323 "BrassYearModel$Orrery" "from" "[I" "BrassYearModel") := ⟨List.mem_of_getElem? (i := 1562) (by decide +kernel), rfl⟩
theorem wf_m_325 : LkN (.fieldLinkNest "BrassYearModel" 325 "BrassYearModel$Orrery" "skies" "I" "BrassYearModel") := ⟨List.mem_of_getElem? (i := 1538) (by decide +kernel), rfl⟩
theorem wf_m_328 : LkN (.fieldLinkNest "BrassYearModel" 328 "BrassYearModel$Orrery" "seen" "I" "BrassYearModel") := ⟨List.mem_of_getElem? (i := 1542) (by decide +kernel), rfl⟩
theorem wf_m_33 : Lk (.fieldLink "BrassYearModel" 33 "BrassYearModel" "order" "[I") := ⟨List.mem_of_getElem? (i := 1424) (by decide +kernel), rfl⟩
theorem wf_m_336 : LkN (.fieldLinkNest "BrassYearModel" 336 "BrassYearModel$Orrery" "seenDay" "[I" "BrassYearModel") := ⟨List.mem_of_getElem? (i := 1570) (by decide +kernel), rfl⟩
theorem wf_m_339 : LkN (.fieldLinkNest "BrassYearModel" 339 "BrassYearModel$Orrery" "jerked" "[I" "BrassYearModel") := ⟨List.mem_of_getElem? (i := 1572) (by decide +kernel), rfl⟩
theorem wf_m_341 : Lk (.fieldLink "BrassYearModel" 341 "BrassYearModel" "taped" "I") := ⟨List.mem_of_getElem? (i := 1406) (by decide +kernel), rfl⟩
theorem wf_m_348 : Lk (.fieldLink "BrassYearModel" 348 "BrassYearModel" "orrery" "LBrassYearModel$Orrery;") := ⟨List.mem_of_getElem? (i := 1403) (by decide +kernel), rfl⟩
theorem wf_m_351 : Lk (.fieldLink "BrassYearModel" 351 "BrassYearModel" "acts" "I") := ⟨List.mem_of_getElem? (i := 1419) (by decide +kernel), rfl⟩
theorem wf_m_354 : Lk (.fieldLink "BrassYearModel" 354 "BrassYearModel" "images" "I") := ⟨List.mem_of_getElem? (i := 1420) (by decide +kernel), rfl⟩
theorem wf_m_36 : Lk (.fieldLink "BrassYearModel" 36 "BrassYearModel" "bestOrder" "[I") := ⟨List.mem_of_getElem? (i := 1425) (by decide +kernel), rfl⟩
theorem wf_m_363 : Lk (.fieldLink "BrassYearModel" 363 "BrassYearModel" "jerks" "Z") := ⟨List.mem_of_getElem? (i := 1421) (by decide +kernel), rfl⟩
theorem wf_m_39 : Lk (.fieldLink "BrassYearModel" 39 "BrassYearModel" "due" "[I") := ⟨List.mem_of_getElem? (i := 1426) (by decide +kernel), rfl⟩
theorem wf_m_416 : Lk (.fieldLink "BrassYearModel" 416 "BrassYearModel" "byNow" "I") := ⟨List.mem_of_getElem? (i := 1423) (by decide +kernel), rfl⟩
theorem wf_m_42 : Lk (.fieldLink "BrassYearModel" 42 "BrassYearModel" "jerkedOn" "[I") := ⟨List.mem_of_getElem? (i := 1428) (by decide +kernel), rfl⟩
theorem wf_m_431 : Lk (.fieldLink "BrassYearModel" 431 "BrassYearModel" "inTimeNow" "I") := ⟨List.mem_of_getElem? (i := 1427) (by decide +kernel), rfl⟩
theorem wf_m_449 : Lk (.fieldLink "BrassYearModel" 449 "BrassYearModel" "fitsNow" "I") := ⟨List.mem_of_getElem? (i := 1430) (by decide +kernel), rfl⟩
theorem wf_m_45 : Lk (.fieldLink "BrassYearModel" 45 "BrassYearModel" "counts" "[I") := ⟨List.mem_of_getElem? (i := 1429) (by decide +kernel), rfl⟩
theorem wf_m_461 : Lk (.fieldLink "BrassYearModel" 461 "BrassYearModel" "lookLeft" "I") := ⟨List.mem_of_getElem? (i := 1431) (by decide +kernel), rfl⟩
theorem wf_m_48 : Lk (.fieldLink "BrassYearModel" 48 "BrassYearModel" "leaf" "[I") := ⟨List.mem_of_getElem? (i := 1432) (by decide +kernel), rfl⟩
theorem wf_m_480 : Lk (.fieldLink "BrassYearModel" 480 "BrassYearModel" "jerksNow" "I") := ⟨List.mem_of_getElem? (i := 1434) (by decide +kernel), rfl⟩
theorem wf_m_503 : Lk (.fieldLink "BrassYearModel" 503 "BrassYearModel" "slipsNow" "I") := ⟨List.mem_of_getElem? (i := 1435) (by decide +kernel), rfl⟩
theorem wf_m_51 : Lk (.fieldLink "BrassYearModel" 51 "BrassYearModel" "move" "[I") := ⟨List.mem_of_getElem? (i := 1433) (by decide +kernel), rfl⟩
theorem wf_m_54 : Lk (.fieldLink "BrassYearModel" 54 "BrassYearModel" "thrown" "I") := ⟨List.mem_of_getElem? (i := 1400) (by decide +kernel), rfl⟩
theorem wf_m_57 : Lk (.fieldLink "BrassYearModel" 57 "BrassYearModel" "trouble" "I") := ⟨List.mem_of_getElem? (i := 1401) (by decide +kernel), rfl⟩
theorem wf_m_71 : Lk (.fieldLink "BrassYearModel" 71 "BrassYearModel" "size" "I") := ⟨List.mem_of_getElem? (i := 1407) (by decide +kernel), rfl⟩
theorem wf_m_86 : Lk (.fieldLink "BrassYearModel" 86 "BrassYearModel" "sort" "I") := ⟨List.mem_of_getElem? (i := 1409) (by decide +kernel), rfl⟩
theorem wf_m_89 : Lk (.fieldLink "BrassYearModel" 89 "BrassYearModel" "spot" "I") := ⟨List.mem_of_getElem? (i := 1408) (by decide +kernel), rfl⟩
theorem wf_m_9 : Lk (.fieldLink "BrassYearModel" 9 "BrassYearModel" "where" "I") := ⟨List.mem_of_getElem? (i := 1402) (by decide +kernel), rfl⟩
theorem wf_m_95 : Lk (.fieldLink "BrassYearModel" 95 "BrassYearModel" "place" "I") := ⟨List.mem_of_getElem? (i := 1410) (by decide +kernel), rfl⟩
theorem wf_n_15 : Lk (.fieldLink "BrassYearModel$Orrery" 15 "BrassYearModel$Orrery" "suspect" "I") := ⟨List.mem_of_getElem? (i := 1539) (by decide +kernel), rfl⟩
theorem wf_n_18 : Lk (.fieldLink "BrassYearModel$Orrery" 18 "BrassYearModel$Orrery" "kind" "[I") := ⟨List.mem_of_getElem? (i := 1545) (by decide +kernel), rfl⟩
theorem wf_n_22 : Lk (.fieldLink "BrassYearModel$Orrery" 22 "BrassYearModel$Orrery" "teeth" "[I") := ⟨List.mem_of_getElem? (i := 1547) (by decide +kernel), rfl⟩
theorem wf_n_25 : Lk (.fieldLink "BrassYearModel$Orrery" 25 "BrassYearModel$Orrery" "by" "[I") := ⟨List.mem_of_getElem? (i := 1549) (by decide +kernel), rfl⟩
theorem wf_n_28 : Lk (.fieldLink "BrassYearModel$Orrery" 28 "BrassYearModel$Orrery" "at" "[I") := ⟨List.mem_of_getElem? (i := 1551) (by decide +kernel), rfl⟩
theorem wf_n_31 : Lk (.fieldLink "BrassYearModel$Orrery" 31 "BrassYearModel$Orrery" "gone" "[J") := ⟨List.mem_of_getElem? (i := 1553) (by decide +kernel), rfl⟩
theorem wf_n_35 : Lk (.fieldLink "BrassYearModel$Orrery" 35 "BrassYearModel$Orrery" "feast" "[I") := ⟨List.mem_of_getElem? (i := 1555) (by decide +kernel), rfl⟩
theorem wf_n_38 : Lk (.fieldLink "BrassYearModel$Orrery" 38 "BrassYearModel$Orrery" "of" "[I") := ⟨List.mem_of_getElem? (i := 1557) (by decide +kernel), rfl⟩
theorem wf_n_41 : Lk (.fieldLink "BrassYearModel$Orrery" 41 "BrassYearModel$Orrery" "every" "[I") := ⟨List.mem_of_getElem? (i := 1559) (by decide +kernel), rfl⟩
theorem wf_n_44 : Lk (.fieldLink "BrassYearModel$Orrery" 44 "BrassYearModel$Orrery" "from" "[I") := ⟨List.mem_of_getElem? (i := 1561) (by decide +kernel), rfl⟩
theorem wf_n_47 : Lk (.fieldLink "BrassYearModel$Orrery" 47 "BrassYearModel$Orrery" "takes" "[I") := ⟨List.mem_of_getElem? (i := 1563) (by decide +kernel), rfl⟩
theorem wf_n_50 : Lk (.fieldLink "BrassYearModel$Orrery" 50 "BrassYearModel$Orrery" "worth" "[I") := ⟨List.mem_of_getElem? (i := 1565) (by decide +kernel), rfl⟩
theorem wf_n_53 : Lk (.fieldLink "BrassYearModel$Orrery" 53 "BrassYearModel$Orrery" "till" "[I") := ⟨List.mem_of_getElem? (i := 1567) (by decide +kernel), rfl⟩
theorem wf_n_56 : Lk (.fieldLink "BrassYearModel$Orrery" 56 "BrassYearModel$Orrery" "seenDay" "[I") := ⟨List.mem_of_getElem? (i := 1569) (by decide +kernel), rfl⟩
theorem wf_n_59 : Lk (.fieldLink "BrassYearModel$Orrery" 59 "BrassYearModel$Orrery" "jerked" "[I") := ⟨List.mem_of_getElem? (i := 1571) (by decide +kernel), rfl⟩
theorem wf_n_62 : Lk (.fieldLink "BrassYearModel$Orrery" 62 "BrassYearModel$Orrery" "name" "[J") := ⟨List.mem_of_getElem? (i := 1573) (by decide +kernel), rfl⟩
theorem wf_n_65 : Lk (.fieldLink "BrassYearModel$Orrery" 65 "BrassYearModel$Orrery" "nameSort" "[I") := ⟨List.mem_of_getElem? (i := 1575) (by decide +kernel), rfl⟩
theorem wf_n_68 : Lk (.fieldLink "BrassYearModel$Orrery" 68 "BrassYearModel$Orrery" "numberOf" "[I") := ⟨List.mem_of_getElem? (i := 1577) (by decide +kernel), rfl⟩
theorem wf_n_71 : Lk (.fieldLink "BrassYearModel$Orrery" 71 "BrassYearModel$Orrery" "names" "I") := ⟨List.mem_of_getElem? (i := 1543) (by decide +kernel), rfl⟩
theorem wf_n_78 : Lk (.fieldLink "BrassYearModel$Orrery" 78 "BrassYearModel$Orrery" "seen" "I") := ⟨List.mem_of_getElem? (i := 1541) (by decide +kernel), rfl⟩
theorem wf_n_9 : Lk (.fieldLink "BrassYearModel$Orrery" 9 "BrassYearModel$Orrery" "oil" "I") := ⟨List.mem_of_getElem? (i := 1531) (by decide +kernel), rfl⟩
theorem df_B : ∀ k, k < 16 → defaultValue (cTYf 0 k) = dfV (kd 0 k) := by decide +kernel
theorem df_C : ∀ k, k < 9 → defaultValue (cTYf 5 k) = dfV (kd 5 k) := by decide +kernel
theorem df_G : ∀ k, k < 4 → defaultValue (cTYf 9 k) = dfV (kd 9 k) := by decide +kernel
theorem df_H : ∀ k, k < 4 → defaultValue (cTYf 10 k) = dfV (kd 10 k) := by decide +kernel
theorem df_K : ∀ k, k < 6 → defaultValue (cTYf 7 k) = dfV (kd 7 k) := by decide +kernel
theorem df_O : ∀ k, k < 16 → defaultValue (cTYf 2 k) = dfV (kd 2 k) := by decide +kernel
theorem df_P : ∀ k, k < 5 → defaultValue (cTYf 4 k) = dfV (kd 4 k) := by decide +kernel
theorem df_R : ∀ k, k < 16 → defaultValue (cTYf 1 k) = dfV (kd 1 k) := by decide +kernel
theorem df_S : ∀ k, k < 8 → defaultValue (cTYf 8 k) = dfV (kd 8 k) := by decide +kernel
theorem df_U : ∀ k, k < 8 → defaultValue (cTYf 6 k) = dfV (kd 6 k) := by decide +kernel
theorem df_W : ∀ k, k < 6 → defaultValue (cTYf 3 k) = dfV (kd 3 k) := by decide +kernel
theorem df_m : ∀ k, k < 36 → defaultValue (cTYf 11 k) = dfV (kd 11 k) := by decide +kernel
theorem df_n : ∀ k, k < 27 → defaultValue (cTYf 12 k) = dfV (kd 12 k) := by decide +kernel
theorem fa_B_106 : FA "BrassYear" 106 2 2 := ⟨_, rfl, by decide, Or.inr ⟨"BrassYear", wf_B_106⟩⟩
theorem fa_B_112 : FA "BrassYear" 112 0 15 := ⟨_, rfl, by decide, Or.inl wf_B_112⟩
theorem fa_B_115 : FA "BrassYear" 115 1 5 := ⟨_, rfl, by decide, Or.inr ⟨"BrassYear", wf_B_115⟩⟩
theorem fa_B_122 : FA "BrassYear" 122 2 3 := ⟨_, rfl, by decide, Or.inr ⟨"BrassYear", wf_B_122⟩⟩
theorem fa_B_126 : FA "BrassYear" 126 3 0 := ⟨_, rfl, by decide, Or.inr ⟨"BrassYear", wf_B_126⟩⟩
theorem fa_B_131 : FA "BrassYear" 131 3 1 := ⟨_, rfl, by decide, Or.inr ⟨"BrassYear", wf_B_131⟩⟩
theorem fa_B_134 : FA "BrassYear" 134 3 2 := ⟨_, rfl, by decide, Or.inr ⟨"BrassYear", wf_B_134⟩⟩
theorem fa_B_137 : FA "BrassYear" 137 3 4 := ⟨_, rfl, by decide, Or.inr ⟨"BrassYear", wf_B_137⟩⟩
theorem fa_B_157 : FA "BrassYear" 157 2 6 := ⟨_, rfl, by decide, Or.inr ⟨"BrassYear", wf_B_157⟩⟩
theorem fa_B_16 : FA "BrassYear" 16 0 2 := ⟨_, rfl, by decide, Or.inl wf_B_16⟩
theorem fa_B_160 : FA "BrassYear" 160 2 7 := ⟨_, rfl, by decide, Or.inr ⟨"BrassYear", wf_B_160⟩⟩
theorem fa_B_163 : FA "BrassYear" 163 2 8 := ⟨_, rfl, by decide, Or.inr ⟨"BrassYear", wf_B_163⟩⟩
theorem fa_B_166 : FA "BrassYear" 166 2 9 := ⟨_, rfl, by decide, Or.inr ⟨"BrassYear", wf_B_166⟩⟩
theorem fa_B_224 : FA "BrassYear" 224 5 7 := ⟨_, rfl, by decide, Or.inr ⟨"BrassYear", wf_B_224⟩⟩
theorem fa_B_227 : FA "BrassYear" 227 5 8 := ⟨_, rfl, by decide, Or.inr ⟨"BrassYear", wf_B_227⟩⟩
theorem fa_B_23 : FA "BrassYear" 23 0 3 := ⟨_, rfl, by decide, Or.inl wf_B_23⟩
theorem fa_B_237 : FA "BrassYear" 237 7 3 := ⟨_, rfl, by decide, Or.inr ⟨"BrassYear", wf_B_237⟩⟩
theorem fa_B_240 : FA "BrassYear" 240 7 2 := ⟨_, rfl, by decide, Or.inr ⟨"BrassYear", wf_B_240⟩⟩
theorem fa_B_243 : FA "BrassYear" 243 7 4 := ⟨_, rfl, by decide, Or.inr ⟨"BrassYear", wf_B_243⟩⟩
theorem fa_B_262 : FA "BrassYear" 262 8 4 := ⟨_, rfl, by decide, Or.inr ⟨"BrassYear", wf_B_262⟩⟩
theorem fa_B_265 : FA "BrassYear" 265 8 3 := ⟨_, rfl, by decide, Or.inr ⟨"BrassYear", wf_B_265⟩⟩
theorem fa_B_268 : FA "BrassYear" 268 2 12 := ⟨_, rfl, by decide, Or.inr ⟨"BrassYear", wf_B_268⟩⟩
theorem fa_B_27 : FA "BrassYear" 27 0 4 := ⟨_, rfl, by decide, Or.inl wf_B_27⟩
theorem fa_B_271 : FA "BrassYear" 271 8 5 := ⟨_, rfl, by decide, Or.inr ⟨"BrassYear", wf_B_271⟩⟩
theorem fa_B_274 : FA "BrassYear" 274 8 6 := ⟨_, rfl, by decide, Or.inr ⟨"BrassYear", wf_B_274⟩⟩
theorem fa_B_285 : FA "BrassYear" 285 9 3 := ⟨_, rfl, by decide, Or.inr ⟨"BrassYear", wf_B_285⟩⟩
theorem fa_B_292 : FA "BrassYear" 292 10 0 := ⟨_, rfl, by decide, Or.inr ⟨"BrassYear", wf_B_292⟩⟩
theorem fa_B_30 : FA "BrassYear" 30 0 5 := ⟨_, rfl, by decide, Or.inl wf_B_30⟩
theorem fa_B_300 : FA "BrassYear" 300 10 2 := ⟨_, rfl, by decide, Or.inr ⟨"BrassYear", wf_B_300⟩⟩
theorem fa_B_310 : FA "BrassYear" 310 0 7 := ⟨_, rfl, by decide, Or.inl wf_B_310⟩
theorem fa_B_324 : FA "BrassYear" 324 2 1 := ⟨_, rfl, by decide, Or.inr ⟨"BrassYear", wf_B_324⟩⟩
theorem fa_B_34 : FA "BrassYear" 34 0 6 := ⟨_, rfl, by decide, Or.inl wf_B_34⟩
theorem fa_B_353 : FA "BrassYear" 353 4 2 := ⟨_, rfl, by decide, Or.inr ⟨"BrassYear", wf_B_353⟩⟩
theorem fa_B_359 : FA "BrassYear" 359 4 4 := ⟨_, rfl, by decide, Or.inr ⟨"BrassYear", wf_B_359⟩⟩
theorem fa_B_369 : FA "BrassYear" 369 2 4 := ⟨_, rfl, by decide, Or.inr ⟨"BrassYear", wf_B_369⟩⟩
theorem fa_B_385 : FA "BrassYear" 385 2 13 := ⟨_, rfl, by decide, Or.inr ⟨"BrassYear", wf_B_385⟩⟩
theorem fa_B_40 : FA "BrassYear" 40 0 8 := ⟨_, rfl, by decide, Or.inl wf_B_40⟩
theorem fa_B_47 : FA "BrassYear" 47 0 9 := ⟨_, rfl, by decide, Or.inl wf_B_47⟩
theorem fa_B_54 : FA "BrassYear" 54 0 10 := ⟨_, rfl, by decide, Or.inl wf_B_54⟩
theorem fa_B_61 : FA "BrassYear" 61 0 11 := ⟨_, rfl, by decide, Or.inl wf_B_61⟩
theorem fa_B_68 : FA "BrassYear" 68 0 12 := ⟨_, rfl, by decide, Or.inl wf_B_68⟩
theorem fa_B_75 : FA "BrassYear" 75 0 13 := ⟨_, rfl, by decide, Or.inl wf_B_75⟩
theorem fa_B_79 : FA "BrassYear" 79 0 1 := ⟨_, rfl, by decide, Or.inl wf_B_79⟩
theorem fa_B_9 : FA "BrassYear" 9 0 0 := ⟨_, rfl, by decide, Or.inl wf_B_9⟩
theorem fa_B_95 : FA "BrassYear" 95 0 14 := ⟨_, rfl, by decide, Or.inl wf_B_95⟩
theorem fa_C_108 : FA "BrassYear$Calendar" 108 3 2 := ⟨_, rfl, by decide, Or.inr ⟨"BrassYear", wf_C_108⟩⟩
theorem fa_C_11 : FA "BrassYear$Calendar" 11 5 0 := ⟨_, rfl, by decide, Or.inl wf_C_11⟩
theorem fa_C_20 : FA "BrassYear$Calendar" 20 5 1 := ⟨_, rfl, by decide, Or.inl wf_C_20⟩
theorem fa_C_24 : FA "BrassYear$Calendar" 24 5 2 := ⟨_, rfl, by decide, Or.inl wf_C_24⟩
theorem fa_C_28 : FA "BrassYear$Calendar" 28 5 3 := ⟨_, rfl, by decide, Or.inl wf_C_28⟩
theorem fa_C_31 : FA "BrassYear$Calendar" 31 5 4 := ⟨_, rfl, by decide, Or.inl wf_C_31⟩
theorem fa_C_35 : FA "BrassYear$Calendar" 35 2 2 := ⟨_, rfl, by decide, Or.inr ⟨"BrassYear", wf_C_35⟩⟩
theorem fa_C_45 : FA "BrassYear$Calendar" 45 5 5 := ⟨_, rfl, by decide, Or.inl wf_C_45⟩
theorem fa_C_49 : FA "BrassYear$Calendar" 49 5 6 := ⟨_, rfl, by decide, Or.inl wf_C_49⟩
theorem fa_C_52 : FA "BrassYear$Calendar" 52 2 3 := ⟨_, rfl, by decide, Or.inr ⟨"BrassYear", wf_C_52⟩⟩
theorem fa_C_86 : FA "BrassYear$Calendar" 86 2 4 := ⟨_, rfl, by decide, Or.inr ⟨"BrassYear", wf_C_86⟩⟩
theorem fa_C_97 : FA "BrassYear$Calendar" 97 3 1 := ⟨_, rfl, by decide, Or.inr ⟨"BrassYear", wf_C_97⟩⟩
theorem fa_G_11 : FA "BrassYear$Game" 11 9 0 := ⟨_, rfl, by decide, Or.inl wf_G_11⟩
theorem fa_G_16 : FA "BrassYear$Game" 16 9 1 := ⟨_, rfl, by decide, Or.inl wf_G_16⟩
theorem fa_G_20 : FA "BrassYear$Game" 20 9 2 := ⟨_, rfl, by decide, Or.inl wf_G_20⟩
theorem fa_G_24 : FA "BrassYear$Game" 24 9 3 := ⟨_, rfl, by decide, Or.inl wf_G_24⟩
theorem fa_H_15 : FA "BrassYear$Chances" 15 10 1 := ⟨_, rfl, by decide, Or.inl wf_H_15⟩
theorem fa_H_24 : FA "BrassYear$Chances" 24 10 2 := ⟨_, rfl, by decide, Or.inl wf_H_24⟩
theorem fa_H_28 : FA "BrassYear$Chances" 28 10 3 := ⟨_, rfl, by decide, Or.inl wf_H_28⟩
theorem fa_H_31 : FA "BrassYear$Chances" 31 2 3 := ⟨_, rfl, by decide, Or.inr ⟨"BrassYear", wf_H_31⟩⟩
theorem fa_H_43 : FA "BrassYear$Chances" 43 2 1 := ⟨_, rfl, by decide, Or.inr ⟨"BrassYear", wf_H_43⟩⟩
theorem fa_H_53 : FA "BrassYear$Chances" 53 3 1 := ⟨_, rfl, by decide, Or.inr ⟨"BrassYear", wf_H_53⟩⟩
theorem fa_H_56 : FA "BrassYear$Chances" 56 3 2 := ⟨_, rfl, by decide, Or.inr ⟨"BrassYear", wf_H_56⟩⟩
theorem fa_H_9 : FA "BrassYear$Chances" 9 10 0 := ⟨_, rfl, by decide, Or.inl wf_H_9⟩
theorem fa_K_15 : FA "BrassYear$WorkOrder" 15 7 1 := ⟨_, rfl, by decide, Or.inl wf_K_15⟩
theorem fa_K_18 : FA "BrassYear$WorkOrder" 18 7 2 := ⟨_, rfl, by decide, Or.inl wf_K_18⟩
theorem fa_K_21 : FA "BrassYear$WorkOrder" 21 7 5 := ⟨_, rfl, by decide, Or.inl wf_K_21⟩
theorem fa_K_25 : FA "BrassYear$WorkOrder" 25 7 3 := ⟨_, rfl, by decide, Or.inl wf_K_25⟩
theorem fa_K_32 : FA "BrassYear$WorkOrder" 32 2 6 := ⟨_, rfl, by decide, Or.inr ⟨"BrassYear", wf_K_32⟩⟩
theorem fa_K_37 : FA "BrassYear$WorkOrder" 37 2 9 := ⟨_, rfl, by decide, Or.inr ⟨"BrassYear", wf_K_37⟩⟩
theorem fa_K_56 : FA "BrassYear$WorkOrder" 56 2 7 := ⟨_, rfl, by decide, Or.inr ⟨"BrassYear", wf_K_56⟩⟩
theorem fa_K_59 : FA "BrassYear$WorkOrder" 59 2 8 := ⟨_, rfl, by decide, Or.inr ⟨"BrassYear", wf_K_59⟩⟩
theorem fa_K_9 : FA "BrassYear$WorkOrder" 9 7 0 := ⟨_, rfl, by decide, Or.inl wf_K_9⟩
theorem fa_O_109 : FA "BrassYear$Orrery" 109 3 2 := ⟨_, rfl, by decide, Or.inr ⟨"BrassYear", wf_O_109⟩⟩
theorem fa_O_11 : FA "BrassYear$Orrery" 11 2 3 := ⟨_, rfl, by decide, Or.inl wf_O_11⟩
theorem fa_O_17 : FA "BrassYear$Orrery" 17 2 5 := ⟨_, rfl, by decide, Or.inl wf_O_17⟩
theorem fa_O_30 : FA "BrassYear$Orrery" 30 2 10 := ⟨_, rfl, by decide, Or.inl wf_O_30⟩
theorem fa_O_33 : FA "BrassYear$Orrery" 33 2 11 := ⟨_, rfl, by decide, Or.inl wf_O_33⟩
theorem fa_O_48 : FA "BrassYear$Orrery" 48 2 0 := ⟨_, rfl, by decide, Or.inl wf_O_48⟩
theorem fa_O_54 : FA "BrassYear$Orrery" 54 2 2 := ⟨_, rfl, by decide, Or.inl wf_O_54⟩
theorem fa_O_57 : FA "BrassYear$Orrery" 57 2 4 := ⟨_, rfl, by decide, Or.inl wf_O_57⟩
theorem fa_O_72 : FA "BrassYear$Orrery" 72 3 3 := ⟨_, rfl, by decide, Or.inr ⟨"BrassYear", wf_O_72⟩⟩
theorem fa_O_83 : FA "BrassYear$Orrery" 83 3 4 := ⟨_, rfl, by decide, Or.inr ⟨"BrassYear", wf_O_83⟩⟩
theorem fa_P_11 : FA "BrassYear$Past" 11 4 0 := ⟨_, rfl, by decide, Or.inl wf_P_11⟩
theorem fa_P_15 : FA "BrassYear$Past" 15 4 1 := ⟨_, rfl, by decide, Or.inl wf_P_15⟩
theorem fa_P_18 : FA "BrassYear$Past" 18 4 2 := ⟨_, rfl, by decide, Or.inl wf_P_18⟩
theorem fa_P_22 : FA "BrassYear$Past" 22 4 4 := ⟨_, rfl, by decide, Or.inl wf_P_22⟩
theorem fa_P_25 : FA "BrassYear$Past" 25 4 3 := ⟨_, rfl, by decide, Or.inl wf_P_25⟩
theorem fa_R_11 : FA "BrassYear$Reader" 11 1 13 := ⟨_, rfl, by decide, Or.inl wf_R_11⟩
theorem fa_R_15 : FA "BrassYear$Reader" 15 1 14 := ⟨_, rfl, by decide, Or.inl wf_R_15⟩
theorem fa_R_159 : FA "BrassYear$Reader" 159 2 3 := ⟨_, rfl, by decide, Or.inr ⟨"BrassYear", wf_R_159⟩⟩
theorem fa_R_181 : FA "BrassYear$Reader" 181 3 4 := ⟨_, rfl, by decide, Or.inr ⟨"BrassYear", wf_R_181⟩⟩
theorem fa_R_184 : FA "BrassYear$Reader" 184 1 11 := ⟨_, rfl, by decide, Or.inl wf_R_184⟩
theorem fa_R_187 : FA "BrassYear$Reader" 187 2 12 := ⟨_, rfl, by decide, Or.inr ⟨"BrassYear", wf_R_187⟩⟩
theorem fa_R_19 : FA "BrassYear$Reader" 19 1 15 := ⟨_, rfl, by decide, Or.inl wf_R_19⟩
theorem fa_R_190 : FA "BrassYear$Reader" 190 3 1 := ⟨_, rfl, by decide, Or.inr ⟨"BrassYear", wf_R_190⟩⟩
theorem fa_R_201 : FA "BrassYear$Reader" 201 2 4 := ⟨_, rfl, by decide, Or.inr ⟨"BrassYear", wf_R_201⟩⟩
theorem fa_R_214 : FA "BrassYear$Reader" 214 2 6 := ⟨_, rfl, by decide, Or.inr ⟨"BrassYear", wf_R_214⟩⟩
theorem fa_R_22 : FA "BrassYear$Reader" 22 1 0 := ⟨_, rfl, by decide, Or.inl wf_R_22⟩
theorem fa_R_221 : FA "BrassYear$Reader" 221 2 7 := ⟨_, rfl, by decide, Or.inr ⟨"BrassYear", wf_R_221⟩⟩
theorem fa_R_224 : FA "BrassYear$Reader" 224 2 8 := ⟨_, rfl, by decide, Or.inr ⟨"BrassYear", wf_R_224⟩⟩
theorem fa_R_227 : FA "BrassYear$Reader" 227 2 9 := ⟨_, rfl, by decide, Or.inr ⟨"BrassYear", wf_R_227⟩⟩
theorem fa_R_237 : FA "BrassYear$Reader" 237 2 10 := ⟨_, rfl, by decide, Or.inr ⟨"BrassYear", wf_R_237⟩⟩
theorem fa_R_240 : FA "BrassYear$Reader" 240 2 11 := ⟨_, rfl, by decide, Or.inr ⟨"BrassYear", wf_R_240⟩⟩
theorem fa_R_243 : FA "BrassYear$Reader" 243 2 13 := ⟨_, rfl, by decide, Or.inr ⟨"BrassYear", wf_R_243⟩⟩
theorem fa_R_248 : FA "BrassYear$Reader" 248 2 14 := ⟨_, rfl, by decide, Or.inr ⟨"BrassYear", wf_R_248⟩⟩
theorem fa_R_251 : FA "BrassYear$Reader" 251 2 15 := ⟨_, rfl, by decide, Or.inr ⟨"BrassYear", wf_R_251⟩⟩
theorem fa_R_255 : FA "BrassYear$Reader" 255 1 9 := ⟨_, rfl, by decide, Or.inl wf_R_255⟩
theorem fa_R_261 : FA "BrassYear$Reader" 261 1 10 := ⟨_, rfl, by decide, Or.inl wf_R_261⟩
theorem fa_R_32 : FA "BrassYear$Reader" 32 1 1 := ⟨_, rfl, by decide, Or.inl wf_R_32⟩
theorem fa_R_36 : FA "BrassYear$Reader" 36 1 2 := ⟨_, rfl, by decide, Or.inl wf_R_36⟩
theorem fa_R_45 : FA "BrassYear$Reader" 45 1 3 := ⟨_, rfl, by decide, Or.inl wf_R_45⟩
theorem fa_R_49 : FA "BrassYear$Reader" 49 1 4 := ⟨_, rfl, by decide, Or.inl wf_R_49⟩
theorem fa_R_55 : FA "BrassYear$Reader" 55 1 7 := ⟨_, rfl, by decide, Or.inl wf_R_55⟩
theorem fa_R_58 : FA "BrassYear$Reader" 58 1 12 := ⟨_, rfl, by decide, Or.inl wf_R_58⟩
theorem fa_R_67 : FA "BrassYear$Reader" 67 1 8 := ⟨_, rfl, by decide, Or.inl wf_R_67⟩
theorem fa_R_70 : FA "BrassYear$Reader" 70 1 6 := ⟨_, rfl, by decide, Or.inl wf_R_70⟩
theorem fa_R_77 : FA "BrassYear$Reader" 77 2 2 := ⟨_, rfl, by decide, Or.inr ⟨"BrassYear", wf_R_77⟩⟩
theorem fa_S_100 : FA "BrassYear$Suspicion" 100 2 13 := ⟨_, rfl, by decide, Or.inr ⟨"BrassYear", wf_S_100⟩⟩
theorem fa_S_103 : FA "BrassYear$Suspicion" 103 2 14 := ⟨_, rfl, by decide, Or.inr ⟨"BrassYear", wf_S_103⟩⟩
theorem fa_S_109 : FA "BrassYear$Suspicion" 109 2 15 := ⟨_, rfl, by decide, Or.inr ⟨"BrassYear", wf_S_109⟩⟩
theorem fa_S_116 : FA "BrassYear$Suspicion" 116 8 6 := ⟨_, rfl, by decide, Or.inl wf_S_116⟩
theorem fa_S_12 : FA "BrassYear$Suspicion" 12 8 0 := ⟨_, rfl, by decide, Or.inl wf_S_12⟩
theorem fa_S_18 : FA "BrassYear$Suspicion" 18 8 1 := ⟨_, rfl, by decide, Or.inl wf_S_18⟩
theorem fa_S_22 : FA "BrassYear$Suspicion" 22 8 2 := ⟨_, rfl, by decide, Or.inl wf_S_22⟩
theorem fa_S_25 : FA "BrassYear$Suspicion" 25 8 3 := ⟨_, rfl, by decide, Or.inl wf_S_25⟩
theorem fa_S_29 : FA "BrassYear$Suspicion" 29 8 7 := ⟨_, rfl, by decide, Or.inl wf_S_29⟩
theorem fa_S_33 : FA "BrassYear$Suspicion" 33 8 4 := ⟨_, rfl, by decide, Or.inl wf_S_33⟩
theorem fa_S_37 : FA "BrassYear$Suspicion" 37 2 3 := ⟨_, rfl, by decide, Or.inr ⟨"BrassYear", wf_S_37⟩⟩
theorem fa_S_43 : FA "BrassYear$Suspicion" 43 2 12 := ⟨_, rfl, by decide, Or.inr ⟨"BrassYear", wf_S_43⟩⟩
theorem fa_S_46 : FA "BrassYear$Suspicion" 46 3 1 := ⟨_, rfl, by decide, Or.inr ⟨"BrassYear", wf_S_46⟩⟩
theorem fa_S_57 : FA "BrassYear$Suspicion" 57 2 0 := ⟨_, rfl, by decide, Or.inr ⟨"BrassYear", wf_S_57⟩⟩
theorem fa_S_71 : FA "BrassYear$Suspicion" 71 3 3 := ⟨_, rfl, by decide, Or.inr ⟨"BrassYear", wf_S_71⟩⟩
theorem fa_S_78 : FA "BrassYear$Suspicion" 78 3 2 := ⟨_, rfl, by decide, Or.inr ⟨"BrassYear", wf_S_78⟩⟩
theorem fa_U_15 : FA "BrassYear$Course" 15 6 1 := ⟨_, rfl, by decide, Or.inl wf_U_15⟩
theorem fa_U_18 : FA "BrassYear$Course" 18 6 2 := ⟨_, rfl, by decide, Or.inl wf_U_18⟩
theorem fa_U_21 : FA "BrassYear$Course" 21 3 0 := ⟨_, rfl, by decide, Or.inr ⟨"BrassYear", wf_U_21⟩⟩
theorem fa_U_27 : FA "BrassYear$Course" 27 6 5 := ⟨_, rfl, by decide, Or.inl wf_U_27⟩
theorem fa_U_28 : FA "BrassYear$Course" 28 6 6 := ⟨_, rfl, by decide, Or.inl wf_U_28⟩
theorem fa_U_31 : FA "BrassYear$Course" 31 6 7 := ⟨_, rfl, by decide, Or.inl wf_U_31⟩
theorem fa_U_40 : FA "BrassYear$Course" 40 6 3 := ⟨_, rfl, by decide, Or.inl wf_U_40⟩
theorem fa_U_43 : FA "BrassYear$Course" 43 3 2 := ⟨_, rfl, by decide, Or.inr ⟨"BrassYear", wf_U_43⟩⟩
theorem fa_U_67 : FA "BrassYear$Course" 67 6 4 := ⟨_, rfl, by decide, Or.inl wf_U_67⟩
theorem fa_U_9 : FA "BrassYear$Course" 9 6 0 := ⟨_, rfl, by decide, Or.inl wf_U_9⟩
theorem fa_W_15 : FA "BrassYear$Wheel" 15 3 1 := ⟨_, rfl, by decide, Or.inl wf_W_15⟩
theorem fa_W_18 : FA "BrassYear$Wheel" 18 3 2 := ⟨_, rfl, by decide, Or.inl wf_W_18⟩
theorem fa_W_21 : FA "BrassYear$Wheel" 21 3 3 := ⟨_, rfl, by decide, Or.inl wf_W_21⟩
theorem fa_W_24 : FA "BrassYear$Wheel" 24 3 4 := ⟨_, rfl, by decide, Or.inl wf_W_24⟩
theorem fa_W_27 : FA "BrassYear$Wheel" 27 3 5 := ⟨_, rfl, by decide, Or.inl wf_W_27⟩
theorem fa_W_9 : FA "BrassYear$Wheel" 9 3 0 := ⟨_, rfl, by decide, Or.inl wf_W_9⟩
theorem fa_m_102 : FA "BrassYearModel" 102 11 14 := ⟨_, rfl, by decide, Or.inl wf_m_102⟩
theorem fa_m_109 : FA "BrassYearModel" 109 11 11 := ⟨_, rfl, by decide, Or.inl wf_m_109⟩
theorem fa_m_112 : FA "BrassYearModel" 112 11 12 := ⟨_, rfl, by decide, Or.inl wf_m_112⟩
theorem fa_m_115 : FA "BrassYearModel" 115 11 13 := ⟨_, rfl, by decide, Or.inl wf_m_115⟩
theorem fa_m_13 : FA "BrassYearModel" 13 11 5 := ⟨_, rfl, by decide, Or.inl wf_m_13⟩
theorem fa_m_166 : FA "BrassYearModel" 166 11 4 := ⟨_, rfl, by decide, Or.inl wf_m_166⟩
theorem fa_m_17 : FA "BrassYearModel" 17 11 15 := ⟨_, rfl, by decide, Or.inl wf_m_17⟩
theorem fa_m_170 : FA "BrassYearModel" 170 12 0 := ⟨_, rfl, by decide, Or.inr ⟨"BrassYearModel", wf_m_170⟩⟩
theorem fa_m_183 : FA "BrassYearModel" 183 12 24 := ⟨_, rfl, by decide, Or.inr ⟨"BrassYearModel", wf_m_183⟩⟩
theorem fa_m_187 : FA "BrassYearModel" 187 12 9 := ⟨_, rfl, by decide, Or.inr ⟨"BrassYearModel", wf_m_187⟩⟩
theorem fa_m_190 : FA "BrassYearModel" 190 12 25 := ⟨_, rfl, by decide, Or.inr ⟨"BrassYearModel", wf_m_190⟩⟩
theorem fa_m_193 : FA "BrassYearModel" 193 12 26 := ⟨_, rfl, by decide, Or.inr ⟨"BrassYearModel", wf_m_193⟩⟩
theorem fa_m_205 : FA "BrassYearModel" 205 12 2 := ⟨_, rfl, by decide, Or.inr ⟨"BrassYearModel", wf_m_205⟩⟩
theorem fa_m_21 : FA "BrassYearModel" 21 11 16 := ⟨_, rfl, by decide, Or.inl wf_m_21⟩
theorem fa_m_239 : FA "BrassYearModel" 239 12 1 := ⟨_, rfl, by decide, Or.inr ⟨"BrassYearModel", wf_m_239⟩⟩
theorem fa_m_24 : FA "BrassYearModel" 24 11 17 := ⟨_, rfl, by decide, Or.inl wf_m_24⟩
theorem fa_m_266 : FA "BrassYearModel" 266 12 10 := ⟨_, rfl, by decide, Or.inr ⟨"BrassYearModel", wf_m_266⟩⟩
theorem fa_m_269 : FA "BrassYearModel" 269 12 11 := ⟨_, rfl, by decide, Or.inr ⟨"BrassYearModel", wf_m_269⟩⟩
theorem fa_m_27 : FA "BrassYearModel" 27 11 18 := ⟨_, rfl, by decide, Or.inl wf_m_27⟩
theorem fa_m_271 : FA "BrassYearModel" 271 12 12 := ⟨_, rfl, by decide, Or.inr ⟨"BrassYearModel", wf_m_271⟩⟩
theorem fa_m_273 : FA "BrassYearModel" 273 12 13 := ⟨_, rfl, by decide, Or.inr ⟨"BrassYearModel", wf_m_273⟩⟩
theorem fa_m_278 : FA "BrassYearModel" 278 12 7 := ⟨_, rfl, by decide, Or.inr ⟨"BrassYearModel", wf_m_278⟩⟩
theorem fa_m_284 : FA "BrassYearModel" 284 12 14 := ⟨_, rfl, by decide, Or.inr ⟨"BrassYearModel", wf_m_284⟩⟩
theorem fa_m_286 : FA "BrassYearModel" 286 12 3 := ⟨_, rfl, by decide, Or.inr ⟨"BrassYearModel", wf_m_286⟩⟩
theorem fa_m_289 : FA "BrassYearModel" 289 12 4 := ⟨_, rfl, by decide, Or.inr ⟨"BrassYearModel", wf_m_289⟩⟩
theorem fa_m_295 : FA "BrassYearModel" 295 12 15 := ⟨_, rfl, by decide, Or.inr ⟨"BrassYearModel", wf_m_295⟩⟩
theorem fa_m_297 : FA "BrassYearModel" 297 12 16 := ⟨_, rfl, by decide, Or.inr ⟨"BrassYearModel", wf_m_297⟩⟩
theorem fa_m_30 : FA "BrassYearModel" 30 11 22 := ⟨_, rfl, by decide, Or.inl wf_m_30⟩
theorem fa_m_300 : FA "BrassYearModel" 300 12 5 := ⟨_, rfl, by decide, Or.inr ⟨"BrassYearModel", wf_m_300⟩⟩
theorem fa_m_310 : FA "BrassYearModel" 310 12 19 := ⟨_, rfl, by decide, Or.inr ⟨"BrassYearModel", wf_m_310⟩⟩
theorem fa_m_312 : FA "BrassYearModel" 312 12 20 := ⟨_, rfl, by decide, Or.inr ⟨"BrassYearModel", wf_m_312⟩⟩
theorem fa_m_314 : FA "BrassYearModel" 314 12 21 := ⟨_, rfl, by decide, Or.inr ⟨"BrassYearModel", wf_m_314⟩⟩
theorem fa_m_317 : FA "BrassYearModel" 317 12 17 := ⟨_, rfl, by decide, Or.inr ⟨"BrassYearModel", wf_m_317⟩⟩
theorem fa_m_323 : FA "BrassYearModel" 323 12 18 := ⟨_, rfl, by decide, Or.inr ⟨"BrassYearModel", wf_m_323⟩⟩
theorem fa_m_325 : FA "BrassYearModel" 325 12 6 := ⟨_, rfl, by decide, Or.inr ⟨"BrassYearModel", wf_m_325⟩⟩
theorem fa_m_328 : FA "BrassYearModel" 328 12 8 := ⟨_, rfl, by decide, Or.inr ⟨"BrassYearModel", wf_m_328⟩⟩
theorem fa_m_33 : FA "BrassYearModel" 33 11 24 := ⟨_, rfl, by decide, Or.inl wf_m_33⟩
theorem fa_m_336 : FA "BrassYearModel" 336 12 22 := ⟨_, rfl, by decide, Or.inr ⟨"BrassYearModel", wf_m_336⟩⟩
theorem fa_m_339 : FA "BrassYearModel" 339 12 23 := ⟨_, rfl, by decide, Or.inr ⟨"BrassYearModel", wf_m_339⟩⟩
theorem fa_m_341 : FA "BrassYearModel" 341 11 6 := ⟨_, rfl, by decide, Or.inl wf_m_341⟩
theorem fa_m_348 : FA "BrassYearModel" 348 11 3 := ⟨_, rfl, by decide, Or.inl wf_m_348⟩
theorem fa_m_351 : FA "BrassYearModel" 351 11 19 := ⟨_, rfl, by decide, Or.inl wf_m_351⟩
theorem fa_m_354 : FA "BrassYearModel" 354 11 20 := ⟨_, rfl, by decide, Or.inl wf_m_354⟩
theorem fa_m_36 : FA "BrassYearModel" 36 11 25 := ⟨_, rfl, by decide, Or.inl wf_m_36⟩
theorem fa_m_363 : FA "BrassYearModel" 363 11 21 := ⟨_, rfl, by decide, Or.inl wf_m_363⟩
theorem fa_m_39 : FA "BrassYearModel" 39 11 26 := ⟨_, rfl, by decide, Or.inl wf_m_39⟩
theorem fa_m_416 : FA "BrassYearModel" 416 11 23 := ⟨_, rfl, by decide, Or.inl wf_m_416⟩
theorem fa_m_42 : FA "BrassYearModel" 42 11 28 := ⟨_, rfl, by decide, Or.inl wf_m_42⟩
theorem fa_m_431 : FA "BrassYearModel" 431 11 27 := ⟨_, rfl, by decide, Or.inl wf_m_431⟩
theorem fa_m_449 : FA "BrassYearModel" 449 11 30 := ⟨_, rfl, by decide, Or.inl wf_m_449⟩
theorem fa_m_45 : FA "BrassYearModel" 45 11 29 := ⟨_, rfl, by decide, Or.inl wf_m_45⟩
theorem fa_m_461 : FA "BrassYearModel" 461 11 31 := ⟨_, rfl, by decide, Or.inl wf_m_461⟩
theorem fa_m_48 : FA "BrassYearModel" 48 11 32 := ⟨_, rfl, by decide, Or.inl wf_m_48⟩
theorem fa_m_480 : FA "BrassYearModel" 480 11 34 := ⟨_, rfl, by decide, Or.inl wf_m_480⟩
theorem fa_m_503 : FA "BrassYearModel" 503 11 35 := ⟨_, rfl, by decide, Or.inl wf_m_503⟩
theorem fa_m_51 : FA "BrassYearModel" 51 11 33 := ⟨_, rfl, by decide, Or.inl wf_m_51⟩
theorem fa_m_54 : FA "BrassYearModel" 54 11 0 := ⟨_, rfl, by decide, Or.inl wf_m_54⟩
theorem fa_m_57 : FA "BrassYearModel" 57 11 1 := ⟨_, rfl, by decide, Or.inl wf_m_57⟩
theorem fa_m_71 : FA "BrassYearModel" 71 11 7 := ⟨_, rfl, by decide, Or.inl wf_m_71⟩
theorem fa_m_86 : FA "BrassYearModel" 86 11 9 := ⟨_, rfl, by decide, Or.inl wf_m_86⟩
theorem fa_m_89 : FA "BrassYearModel" 89 11 8 := ⟨_, rfl, by decide, Or.inl wf_m_89⟩
theorem fa_m_9 : FA "BrassYearModel" 9 11 2 := ⟨_, rfl, by decide, Or.inl wf_m_9⟩
theorem fa_m_95 : FA "BrassYearModel" 95 11 10 := ⟨_, rfl, by decide, Or.inl wf_m_95⟩
theorem fa_n_22 : FA "BrassYearModel$Orrery" 22 12 11 := ⟨_, rfl, by decide, Or.inl wf_n_22⟩
theorem fa_n_31 : FA "BrassYearModel$Orrery" 31 12 14 := ⟨_, rfl, by decide, Or.inl wf_n_31⟩
theorem fa_n_56 : FA "BrassYearModel$Orrery" 56 12 22 := ⟨_, rfl, by decide, Or.inl wf_n_56⟩
theorem fa_n_62 : FA "BrassYearModel$Orrery" 62 12 24 := ⟨_, rfl, by decide, Or.inl wf_n_62⟩
theorem fa_n_71 : FA "BrassYearModel$Orrery" 71 12 9 := ⟨_, rfl, by decide, Or.inl wf_n_71⟩
theorem fa_n_78 : FA "BrassYearModel$Orrery" 78 12 8 := ⟨_, rfl, by decide, Or.inl wf_n_78⟩
theorem fp_B_112 {y1 y2 : String} : FP ⟨"BrassYear", y1, y2⟩ 112 0 15 := ⟨_, rfl, by decide, Or.inl ⟨rfl, wf_B_112⟩⟩
theorem fp_B_16_i : FP (⟨"BrassYear", "<init>", "()V"⟩ : MethodName) 16 0 2 := ⟨_, rfl, by decide, Or.inr (Or.inr ⟨rfl, rfl, rfl, wf_B_16⟩)⟩
theorem fp_B_23 {y1 y2 : String} : FP ⟨"BrassYear", y1, y2⟩ 23 0 3 := ⟨_, rfl, by decide, Or.inl ⟨rfl, wf_B_23⟩⟩
theorem fp_B_23_i {y1 y2 : String} : FP ⟨"BrassYear", y1, y2⟩ 23 0 3 := ⟨_, rfl, by decide, Or.inl ⟨rfl, wf_B_23⟩⟩
theorem fp_B_27 {y1 y2 : String} : FP ⟨"BrassYear", y1, y2⟩ 27 0 4 := ⟨_, rfl, by decide, Or.inl ⟨rfl, wf_B_27⟩⟩
theorem fp_B_27_i {y1 y2 : String} : FP ⟨"BrassYear", y1, y2⟩ 27 0 4 := ⟨_, rfl, by decide, Or.inl ⟨rfl, wf_B_27⟩⟩
theorem fp_B_30_i : FP (⟨"BrassYear", "<init>", "()V"⟩ : MethodName) 30 0 5 := ⟨_, rfl, by decide, Or.inr (Or.inr ⟨rfl, rfl, rfl, wf_B_30⟩)⟩
theorem fp_B_310 {y1 y2 : String} : FP ⟨"BrassYear", y1, y2⟩ 310 0 7 := ⟨_, rfl, by decide, Or.inl ⟨rfl, wf_B_310⟩⟩
theorem fp_B_34_i : FP (⟨"BrassYear", "<init>", "()V"⟩ : MethodName) 34 0 6 := ⟨_, rfl, by decide, Or.inr (Or.inr ⟨rfl, rfl, rfl, wf_B_34⟩)⟩
theorem fp_B_40_i : FP (⟨"BrassYear", "<init>", "()V"⟩ : MethodName) 40 0 8 := ⟨_, rfl, by decide, Or.inr (Or.inr ⟨rfl, rfl, rfl, wf_B_40⟩)⟩
theorem fp_B_47_i : FP (⟨"BrassYear", "<init>", "()V"⟩ : MethodName) 47 0 9 := ⟨_, rfl, by decide, Or.inr (Or.inr ⟨rfl, rfl, rfl, wf_B_47⟩)⟩
theorem fp_B_54_i : FP (⟨"BrassYear", "<init>", "()V"⟩ : MethodName) 54 0 10 := ⟨_, rfl, by decide, Or.inr (Or.inr ⟨rfl, rfl, rfl, wf_B_54⟩)⟩
theorem fp_B_61_i : FP (⟨"BrassYear", "<init>", "()V"⟩ : MethodName) 61 0 11 := ⟨_, rfl, by decide, Or.inr (Or.inr ⟨rfl, rfl, rfl, wf_B_61⟩)⟩
theorem fp_B_68_i : FP (⟨"BrassYear", "<init>", "()V"⟩ : MethodName) 68 0 12 := ⟨_, rfl, by decide, Or.inr (Or.inr ⟨rfl, rfl, rfl, wf_B_68⟩)⟩
theorem fp_B_75_i : FP (⟨"BrassYear", "<init>", "()V"⟩ : MethodName) 75 0 13 := ⟨_, rfl, by decide, Or.inr (Or.inr ⟨rfl, rfl, rfl, wf_B_75⟩)⟩
theorem fp_B_79 {y1 y2 : String} : FP ⟨"BrassYear", y1, y2⟩ 79 0 1 := ⟨_, rfl, by decide, Or.inl ⟨rfl, wf_B_79⟩⟩
theorem fp_B_95 {y1 y2 : String} : FP ⟨"BrassYear", y1, y2⟩ 95 0 14 := ⟨_, rfl, by decide, Or.inl ⟨rfl, wf_B_95⟩⟩
theorem fp_B_9_i : FP (⟨"BrassYear", "<init>", "()V"⟩ : MethodName) 9 0 0 := ⟨_, rfl, by decide, Or.inr (Or.inr ⟨rfl, rfl, rfl, wf_B_9⟩)⟩
theorem fp_C_108 {y1 y2 : String} : FP ⟨"BrassYear$Calendar", y1, y2⟩ 108 3 2 := ⟨_, rfl, by decide, Or.inr (Or.inl ⟨rfl, "BrassYear", wf_C_108⟩)⟩
theorem fp_C_11_i : FP (⟨"BrassYear$Calendar", "<init>", "()V"⟩ : MethodName) 11 5 0 := ⟨_, rfl, by decide, Or.inr (Or.inr ⟨rfl, rfl, rfl, wf_C_11⟩)⟩
theorem fp_C_130 {y1 y2 : String} : FP ⟨"BrassYear$Calendar", y1, y2⟩ 130 5 7 := ⟨_, rfl, by decide, Or.inl ⟨rfl, wf_C_130⟩⟩
theorem fp_C_133 {y1 y2 : String} : FP ⟨"BrassYear$Calendar", y1, y2⟩ 133 5 8 := ⟨_, rfl, by decide, Or.inl ⟨rfl, wf_C_133⟩⟩
theorem fp_C_20_i : FP (⟨"BrassYear$Calendar", "<init>", "()V"⟩ : MethodName) 20 5 1 := ⟨_, rfl, by decide, Or.inr (Or.inr ⟨rfl, rfl, rfl, wf_C_20⟩)⟩
theorem fp_C_24_i : FP (⟨"BrassYear$Calendar", "<init>", "()V"⟩ : MethodName) 24 5 2 := ⟨_, rfl, by decide, Or.inr (Or.inr ⟨rfl, rfl, rfl, wf_C_24⟩)⟩
theorem fp_C_28_i : FP (⟨"BrassYear$Calendar", "<init>", "()V"⟩ : MethodName) 28 5 3 := ⟨_, rfl, by decide, Or.inr (Or.inr ⟨rfl, rfl, rfl, wf_C_28⟩)⟩
theorem fp_C_31_i : FP (⟨"BrassYear$Calendar", "<init>", "()V"⟩ : MethodName) 31 5 4 := ⟨_, rfl, by decide, Or.inr (Or.inr ⟨rfl, rfl, rfl, wf_C_31⟩)⟩
theorem fp_C_45 {y1 y2 : String} : FP ⟨"BrassYear$Calendar", y1, y2⟩ 45 5 5 := ⟨_, rfl, by decide, Or.inl ⟨rfl, wf_C_45⟩⟩
theorem fp_C_49 {y1 y2 : String} : FP ⟨"BrassYear$Calendar", y1, y2⟩ 49 5 6 := ⟨_, rfl, by decide, Or.inl ⟨rfl, wf_C_49⟩⟩
theorem fp_G_11_i : FP (⟨"BrassYear$Game", "<init>", "()V"⟩ : MethodName) 11 9 0 := ⟨_, rfl, by decide, Or.inr (Or.inr ⟨rfl, rfl, rfl, wf_G_11⟩)⟩
theorem fp_G_16 {y1 y2 : String} : FP ⟨"BrassYear$Game", y1, y2⟩ 16 9 1 := ⟨_, rfl, by decide, Or.inl ⟨rfl, wf_G_16⟩⟩
theorem fp_G_20 {y1 y2 : String} : FP ⟨"BrassYear$Game", y1, y2⟩ 20 9 2 := ⟨_, rfl, by decide, Or.inl ⟨rfl, wf_G_20⟩⟩
theorem fp_G_24 {y1 y2 : String} : FP ⟨"BrassYear$Game", y1, y2⟩ 24 9 3 := ⟨_, rfl, by decide, Or.inl ⟨rfl, wf_G_24⟩⟩
theorem fp_H_15 {y1 y2 : String} : FP ⟨"BrassYear$Chances", y1, y2⟩ 15 10 1 := ⟨_, rfl, by decide, Or.inl ⟨rfl, wf_H_15⟩⟩
theorem fp_H_15_i {y1 y2 : String} : FP ⟨"BrassYear$Chances", y1, y2⟩ 15 10 1 := ⟨_, rfl, by decide, Or.inl ⟨rfl, wf_H_15⟩⟩
theorem fp_H_24 {y1 y2 : String} : FP ⟨"BrassYear$Chances", y1, y2⟩ 24 10 2 := ⟨_, rfl, by decide, Or.inl ⟨rfl, wf_H_24⟩⟩
theorem fp_H_28 {y1 y2 : String} : FP ⟨"BrassYear$Chances", y1, y2⟩ 28 10 3 := ⟨_, rfl, by decide, Or.inl ⟨rfl, wf_H_28⟩⟩
theorem fp_H_9 {y1 y2 : String} : FP ⟨"BrassYear$Chances", y1, y2⟩ 9 10 0 := ⟨_, rfl, by decide, Or.inl ⟨rfl, wf_H_9⟩⟩
theorem fp_H_9_i {y1 y2 : String} : FP ⟨"BrassYear$Chances", y1, y2⟩ 9 10 0 := ⟨_, rfl, by decide, Or.inl ⟨rfl, wf_H_9⟩⟩
theorem fp_K_15_i : FP (⟨"BrassYear$WorkOrder", "<init>", "()V"⟩ : MethodName) 15 7 1 := ⟨_, rfl, by decide, Or.inr (Or.inr ⟨rfl, rfl, rfl, wf_K_15⟩)⟩
theorem fp_K_18_i : FP (⟨"BrassYear$WorkOrder", "<init>", "()V"⟩ : MethodName) 18 7 2 := ⟨_, rfl, by decide, Or.inr (Or.inr ⟨rfl, rfl, rfl, wf_K_18⟩)⟩
theorem fp_K_21 {y1 y2 : String} : FP ⟨"BrassYear$WorkOrder", y1, y2⟩ 21 7 5 := ⟨_, rfl, by decide, Or.inl ⟨rfl, wf_K_21⟩⟩
theorem fp_K_25 {y1 y2 : String} : FP ⟨"BrassYear$WorkOrder", y1, y2⟩ 25 7 3 := ⟨_, rfl, by decide, Or.inl ⟨rfl, wf_K_25⟩⟩
theorem fp_K_29 {y1 y2 : String} : FP ⟨"BrassYear$WorkOrder", y1, y2⟩ 29 7 4 := ⟨_, rfl, by decide, Or.inl ⟨rfl, wf_K_29⟩⟩
theorem fp_K_9_i : FP (⟨"BrassYear$WorkOrder", "<init>", "()V"⟩ : MethodName) 9 7 0 := ⟨_, rfl, by decide, Or.inr (Or.inr ⟨rfl, rfl, rfl, wf_K_9⟩)⟩
theorem fp_O_11_i : FP (⟨"BrassYear$Orrery", "<init>", "()V"⟩ : MethodName) 11 2 3 := ⟨_, rfl, by decide, Or.inr (Or.inr ⟨rfl, rfl, rfl, wf_O_11⟩)⟩
theorem fp_O_17_i : FP (⟨"BrassYear$Orrery", "<init>", "()V"⟩ : MethodName) 17 2 5 := ⟨_, rfl, by decide, Or.inr (Or.inr ⟨rfl, rfl, rfl, wf_O_17⟩)⟩
theorem fp_O_21_i : FP (⟨"BrassYear$Orrery", "<init>", "()V"⟩ : MethodName) 21 2 7 := ⟨_, rfl, by decide, Or.inr (Or.inr ⟨rfl, rfl, rfl, wf_O_21⟩)⟩
theorem fp_O_24_i : FP (⟨"BrassYear$Orrery", "<init>", "()V"⟩ : MethodName) 24 2 8 := ⟨_, rfl, by decide, Or.inr (Or.inr ⟨rfl, rfl, rfl, wf_O_24⟩)⟩
theorem fp_O_27_i : FP (⟨"BrassYear$Orrery", "<init>", "()V"⟩ : MethodName) 27 2 9 := ⟨_, rfl, by decide, Or.inr (Or.inr ⟨rfl, rfl, rfl, wf_O_27⟩)⟩
theorem fp_O_30_i : FP (⟨"BrassYear$Orrery", "<init>", "()V"⟩ : MethodName) 30 2 10 := ⟨_, rfl, by decide, Or.inr (Or.inr ⟨rfl, rfl, rfl, wf_O_30⟩)⟩
theorem fp_O_33_i : FP (⟨"BrassYear$Orrery", "<init>", "()V"⟩ : MethodName) 33 2 11 := ⟨_, rfl, by decide, Or.inr (Or.inr ⟨rfl, rfl, rfl, wf_O_33⟩)⟩
theorem fp_O_36 {y1 y2 : String} : FP ⟨"BrassYear$Orrery", y1, y2⟩ 36 2 12 := ⟨_, rfl, by decide, Or.inl ⟨rfl, wf_O_36⟩⟩
theorem fp_O_36_i {y1 y2 : String} : FP ⟨"BrassYear$Orrery", y1, y2⟩ 36 2 12 := ⟨_, rfl, by decide, Or.inl ⟨rfl, wf_O_36⟩⟩
theorem fp_O_40_i : FP (⟨"BrassYear$Orrery", "<init>", "()V"⟩ : MethodName) 40 2 14 := ⟨_, rfl, by decide, Or.inr (Or.inr ⟨rfl, rfl, rfl, wf_O_40⟩)⟩
theorem fp_O_43_i : FP (⟨"BrassYear$Orrery", "<init>", "()V"⟩ : MethodName) 43 2 15 := ⟨_, rfl, by decide, Or.inr (Or.inr ⟨rfl, rfl, rfl, wf_O_43⟩)⟩
theorem fp_O_48 {y1 y2 : String} : FP ⟨"BrassYear$Orrery", y1, y2⟩ 48 2 0 := ⟨_, rfl, by decide, Or.inl ⟨rfl, wf_O_48⟩⟩
theorem fp_O_51 {y1 y2 : String} : FP ⟨"BrassYear$Orrery", y1, y2⟩ 51 2 1 := ⟨_, rfl, by decide, Or.inl ⟨rfl, wf_O_51⟩⟩
theorem fp_O_54 {y1 y2 : String} : FP ⟨"BrassYear$Orrery", y1, y2⟩ 54 2 2 := ⟨_, rfl, by decide, Or.inl ⟨rfl, wf_O_54⟩⟩
theorem fp_O_57 {y1 y2 : String} : FP ⟨"BrassYear$Orrery", y1, y2⟩ 57 2 4 := ⟨_, rfl, by decide, Or.inl ⟨rfl, wf_O_57⟩⟩
theorem fp_O_60 {y1 y2 : String} : FP ⟨"BrassYear$Orrery", y1, y2⟩ 60 2 6 := ⟨_, rfl, by decide, Or.inl ⟨rfl, wf_O_60⟩⟩
theorem fp_O_63 {y1 y2 : String} : FP ⟨"BrassYear$Orrery", y1, y2⟩ 63 2 13 := ⟨_, rfl, by decide, Or.inl ⟨rfl, wf_O_63⟩⟩
theorem fp_P_11_i : FP (⟨"BrassYear$Past", "<init>", "()V"⟩ : MethodName) 11 4 0 := ⟨_, rfl, by decide, Or.inr (Or.inr ⟨rfl, rfl, rfl, wf_P_11⟩)⟩
theorem fp_P_15_i : FP (⟨"BrassYear$Past", "<init>", "()V"⟩ : MethodName) 15 4 1 := ⟨_, rfl, by decide, Or.inr (Or.inr ⟨rfl, rfl, rfl, wf_P_15⟩)⟩
theorem fp_P_18 {y1 y2 : String} : FP ⟨"BrassYear$Past", y1, y2⟩ 18 4 2 := ⟨_, rfl, by decide, Or.inl ⟨rfl, wf_P_18⟩⟩
theorem fp_P_22 {y1 y2 : String} : FP ⟨"BrassYear$Past", y1, y2⟩ 22 4 4 := ⟨_, rfl, by decide, Or.inl ⟨rfl, wf_P_22⟩⟩
theorem fp_P_25 {y1 y2 : String} : FP ⟨"BrassYear$Past", y1, y2⟩ 25 4 3 := ⟨_, rfl, by decide, Or.inl ⟨rfl, wf_P_25⟩⟩
theorem fp_R_11_i : FP (⟨"BrassYear$Reader", "<init>", "()V"⟩ : MethodName) 11 1 13 := ⟨_, rfl, by decide, Or.inr (Or.inr ⟨rfl, rfl, rfl, wf_R_11⟩)⟩
theorem fp_R_138 {y1 y2 : String} : FP ⟨"BrassYear$Reader", y1, y2⟩ 138 2 0 := ⟨_, rfl, by decide, Or.inr (Or.inl ⟨rfl, "BrassYear", wf_R_138⟩)⟩
theorem fp_R_143 {y1 y2 : String} : FP ⟨"BrassYear$Reader", y1, y2⟩ 143 2 1 := ⟨_, rfl, by decide, Or.inr (Or.inl ⟨rfl, "BrassYear", wf_R_143⟩)⟩
theorem fp_R_15_i : FP (⟨"BrassYear$Reader", "<init>", "()V"⟩ : MethodName) 15 1 14 := ⟨_, rfl, by decide, Or.inr (Or.inr ⟨rfl, rfl, rfl, wf_R_15⟩)⟩
theorem fp_R_184 {y1 y2 : String} : FP ⟨"BrassYear$Reader", y1, y2⟩ 184 1 11 := ⟨_, rfl, by decide, Or.inl ⟨rfl, wf_R_184⟩⟩
theorem fp_R_187 {y1 y2 : String} : FP ⟨"BrassYear$Reader", y1, y2⟩ 187 2 12 := ⟨_, rfl, by decide, Or.inr (Or.inl ⟨rfl, "BrassYear", wf_R_187⟩)⟩
theorem fp_R_19_i : FP (⟨"BrassYear$Reader", "<init>", "()V"⟩ : MethodName) 19 1 15 := ⟨_, rfl, by decide, Or.inr (Or.inr ⟨rfl, rfl, rfl, wf_R_19⟩)⟩
theorem fp_R_201 {y1 y2 : String} : FP ⟨"BrassYear$Reader", y1, y2⟩ 201 2 4 := ⟨_, rfl, by decide, Or.inr (Or.inl ⟨rfl, "BrassYear", wf_R_201⟩)⟩
theorem fp_R_214 {y1 y2 : String} : FP ⟨"BrassYear$Reader", y1, y2⟩ 214 2 6 := ⟨_, rfl, by decide, Or.inr (Or.inl ⟨rfl, "BrassYear", wf_R_214⟩)⟩
theorem fp_R_22 {y1 y2 : String} : FP ⟨"BrassYear$Reader", y1, y2⟩ 22 1 0 := ⟨_, rfl, by decide, Or.inl ⟨rfl, wf_R_22⟩⟩
theorem fp_R_243 {y1 y2 : String} : FP ⟨"BrassYear$Reader", y1, y2⟩ 243 2 13 := ⟨_, rfl, by decide, Or.inr (Or.inl ⟨rfl, "BrassYear", wf_R_243⟩)⟩
theorem fp_R_255 {y1 y2 : String} : FP ⟨"BrassYear$Reader", y1, y2⟩ 255 1 9 := ⟨_, rfl, by decide, Or.inl ⟨rfl, wf_R_255⟩⟩
theorem fp_R_261 {y1 y2 : String} : FP ⟨"BrassYear$Reader", y1, y2⟩ 261 1 10 := ⟨_, rfl, by decide, Or.inl ⟨rfl, wf_R_261⟩⟩
theorem fp_R_32 {y1 y2 : String} : FP ⟨"BrassYear$Reader", y1, y2⟩ 32 1 1 := ⟨_, rfl, by decide, Or.inl ⟨rfl, wf_R_32⟩⟩
theorem fp_R_36 {y1 y2 : String} : FP ⟨"BrassYear$Reader", y1, y2⟩ 36 1 2 := ⟨_, rfl, by decide, Or.inl ⟨rfl, wf_R_36⟩⟩
theorem fp_R_45 {y1 y2 : String} : FP ⟨"BrassYear$Reader", y1, y2⟩ 45 1 3 := ⟨_, rfl, by decide, Or.inl ⟨rfl, wf_R_45⟩⟩
theorem fp_R_49 {y1 y2 : String} : FP ⟨"BrassYear$Reader", y1, y2⟩ 49 1 4 := ⟨_, rfl, by decide, Or.inl ⟨rfl, wf_R_49⟩⟩
theorem fp_R_52 {y1 y2 : String} : FP ⟨"BrassYear$Reader", y1, y2⟩ 52 1 5 := ⟨_, rfl, by decide, Or.inl ⟨rfl, wf_R_52⟩⟩
theorem fp_R_55 {y1 y2 : String} : FP ⟨"BrassYear$Reader", y1, y2⟩ 55 1 7 := ⟨_, rfl, by decide, Or.inl ⟨rfl, wf_R_55⟩⟩
theorem fp_R_58 {y1 y2 : String} : FP ⟨"BrassYear$Reader", y1, y2⟩ 58 1 12 := ⟨_, rfl, by decide, Or.inl ⟨rfl, wf_R_58⟩⟩
theorem fp_R_67 {y1 y2 : String} : FP ⟨"BrassYear$Reader", y1, y2⟩ 67 1 8 := ⟨_, rfl, by decide, Or.inl ⟨rfl, wf_R_67⟩⟩
theorem fp_R_70 {y1 y2 : String} : FP ⟨"BrassYear$Reader", y1, y2⟩ 70 1 6 := ⟨_, rfl, by decide, Or.inl ⟨rfl, wf_R_70⟩⟩
theorem fp_R_77 {y1 y2 : String} : FP ⟨"BrassYear$Reader", y1, y2⟩ 77 2 2 := ⟨_, rfl, by decide, Or.inr (Or.inl ⟨rfl, "BrassYear", wf_R_77⟩)⟩
theorem fp_S_113 {y1 y2 : String} : FP ⟨"BrassYear$Suspicion", y1, y2⟩ 113 8 5 := ⟨_, rfl, by decide, Or.inl ⟨rfl, wf_S_113⟩⟩
theorem fp_S_116 {y1 y2 : String} : FP ⟨"BrassYear$Suspicion", y1, y2⟩ 116 8 6 := ⟨_, rfl, by decide, Or.inl ⟨rfl, wf_S_116⟩⟩
theorem fp_S_12_i : FP (⟨"BrassYear$Suspicion", "<init>", "()V"⟩ : MethodName) 12 8 0 := ⟨_, rfl, by decide, Or.inr (Or.inr ⟨rfl, rfl, rfl, wf_S_12⟩)⟩
theorem fp_S_18_i : FP (⟨"BrassYear$Suspicion", "<init>", "()V"⟩ : MethodName) 18 8 1 := ⟨_, rfl, by decide, Or.inr (Or.inr ⟨rfl, rfl, rfl, wf_S_18⟩)⟩
theorem fp_S_22_i : FP (⟨"BrassYear$Suspicion", "<init>", "()V"⟩ : MethodName) 22 8 2 := ⟨_, rfl, by decide, Or.inr (Or.inr ⟨rfl, rfl, rfl, wf_S_22⟩)⟩
theorem fp_S_25_i : FP (⟨"BrassYear$Suspicion", "<init>", "()V"⟩ : MethodName) 25 8 3 := ⟨_, rfl, by decide, Or.inr (Or.inr ⟨rfl, rfl, rfl, wf_S_25⟩)⟩
theorem fp_S_29 {y1 y2 : String} : FP ⟨"BrassYear$Suspicion", y1, y2⟩ 29 8 7 := ⟨_, rfl, by decide, Or.inl ⟨rfl, wf_S_29⟩⟩
theorem fp_S_33 {y1 y2 : String} : FP ⟨"BrassYear$Suspicion", y1, y2⟩ 33 8 4 := ⟨_, rfl, by decide, Or.inl ⟨rfl, wf_S_33⟩⟩
theorem fp_U_15_i : FP (⟨"BrassYear$Course", "<init>", "()V"⟩ : MethodName) 15 6 1 := ⟨_, rfl, by decide, Or.inr (Or.inr ⟨rfl, rfl, rfl, wf_U_15⟩)⟩
theorem fp_U_18_i : FP (⟨"BrassYear$Course", "<init>", "()V"⟩ : MethodName) 18 6 2 := ⟨_, rfl, by decide, Or.inr (Or.inr ⟨rfl, rfl, rfl, wf_U_18⟩)⟩
theorem fp_U_27 {y1 y2 : String} : FP ⟨"BrassYear$Course", y1, y2⟩ 27 6 5 := ⟨_, rfl, by decide, Or.inl ⟨rfl, wf_U_27⟩⟩
theorem fp_U_28 {y1 y2 : String} : FP ⟨"BrassYear$Course", y1, y2⟩ 28 6 6 := ⟨_, rfl, by decide, Or.inl ⟨rfl, wf_U_28⟩⟩
theorem fp_U_31 {y1 y2 : String} : FP ⟨"BrassYear$Course", y1, y2⟩ 31 6 7 := ⟨_, rfl, by decide, Or.inl ⟨rfl, wf_U_31⟩⟩
theorem fp_U_40 {y1 y2 : String} : FP ⟨"BrassYear$Course", y1, y2⟩ 40 6 3 := ⟨_, rfl, by decide, Or.inl ⟨rfl, wf_U_40⟩⟩
theorem fp_U_67 {y1 y2 : String} : FP ⟨"BrassYear$Course", y1, y2⟩ 67 6 4 := ⟨_, rfl, by decide, Or.inl ⟨rfl, wf_U_67⟩⟩
theorem fp_U_9_i : FP (⟨"BrassYear$Course", "<init>", "()V"⟩ : MethodName) 9 6 0 := ⟨_, rfl, by decide, Or.inr (Or.inr ⟨rfl, rfl, rfl, wf_U_9⟩)⟩
theorem fp_W_15 {y1 y2 : String} : FP ⟨"BrassYear$Wheel", y1, y2⟩ 15 3 1 := ⟨_, rfl, by decide, Or.inl ⟨rfl, wf_W_15⟩⟩
theorem fp_W_18 {y1 y2 : String} : FP ⟨"BrassYear$Wheel", y1, y2⟩ 18 3 2 := ⟨_, rfl, by decide, Or.inl ⟨rfl, wf_W_18⟩⟩
theorem fp_W_21 {y1 y2 : String} : FP ⟨"BrassYear$Wheel", y1, y2⟩ 21 3 3 := ⟨_, rfl, by decide, Or.inl ⟨rfl, wf_W_21⟩⟩
theorem fp_W_24 {y1 y2 : String} : FP ⟨"BrassYear$Wheel", y1, y2⟩ 24 3 4 := ⟨_, rfl, by decide, Or.inl ⟨rfl, wf_W_24⟩⟩
theorem fp_W_27 {y1 y2 : String} : FP ⟨"BrassYear$Wheel", y1, y2⟩ 27 3 5 := ⟨_, rfl, by decide, Or.inl ⟨rfl, wf_W_27⟩⟩
theorem fp_W_9 {y1 y2 : String} : FP ⟨"BrassYear$Wheel", y1, y2⟩ 9 3 0 := ⟨_, rfl, by decide, Or.inl ⟨rfl, wf_W_9⟩⟩
theorem fp_m_102 {y1 y2 : String} : FP ⟨"BrassYearModel", y1, y2⟩ 102 11 14 := ⟨_, rfl, by decide, Or.inl ⟨rfl, wf_m_102⟩⟩
theorem fp_m_109 {y1 y2 : String} : FP ⟨"BrassYearModel", y1, y2⟩ 109 11 11 := ⟨_, rfl, by decide, Or.inl ⟨rfl, wf_m_109⟩⟩
theorem fp_m_112 {y1 y2 : String} : FP ⟨"BrassYearModel", y1, y2⟩ 112 11 12 := ⟨_, rfl, by decide, Or.inl ⟨rfl, wf_m_112⟩⟩
theorem fp_m_115 {y1 y2 : String} : FP ⟨"BrassYearModel", y1, y2⟩ 115 11 13 := ⟨_, rfl, by decide, Or.inl ⟨rfl, wf_m_115⟩⟩
theorem fp_m_13_i : FP (⟨"BrassYearModel", "<init>", "()V"⟩ : MethodName) 13 11 5 := ⟨_, rfl, by decide, Or.inr (Or.inr ⟨rfl, rfl, rfl, wf_m_13⟩)⟩
theorem fp_m_166 {y1 y2 : String} : FP ⟨"BrassYearModel", y1, y2⟩ 166 11 4 := ⟨_, rfl, by decide, Or.inl ⟨rfl, wf_m_166⟩⟩
theorem fp_m_170 {y1 y2 : String} : FP ⟨"BrassYearModel", y1, y2⟩ 170 12 0 := ⟨_, rfl, by decide, Or.inr (Or.inl ⟨rfl, "BrassYearModel", wf_m_170⟩)⟩
theorem fp_m_17_i : FP (⟨"BrassYearModel", "<init>", "()V"⟩ : MethodName) 17 11 15 := ⟨_, rfl, by decide, Or.inr (Or.inr ⟨rfl, rfl, rfl, wf_m_17⟩)⟩
theorem fp_m_187 {y1 y2 : String} : FP ⟨"BrassYearModel", y1, y2⟩ 187 12 9 := ⟨_, rfl, by decide, Or.inr (Or.inl ⟨rfl, "BrassYearModel", wf_m_187⟩)⟩
theorem fp_m_205 {y1 y2 : String} : FP ⟨"BrassYearModel", y1, y2⟩ 205 12 2 := ⟨_, rfl, by decide, Or.inr (Or.inl ⟨rfl, "BrassYearModel", wf_m_205⟩)⟩
theorem fp_m_21_i : FP (⟨"BrassYearModel", "<init>", "()V"⟩ : MethodName) 21 11 16 := ⟨_, rfl, by decide, Or.inr (Or.inr ⟨rfl, rfl, rfl, wf_m_21⟩)⟩
theorem fp_m_239 {y1 y2 : String} : FP ⟨"BrassYearModel", y1, y2⟩ 239 12 1 := ⟨_, rfl, by decide, Or.inr (Or.inl ⟨rfl, "BrassYearModel", wf_m_239⟩)⟩
theorem fp_m_24_i : FP (⟨"BrassYearModel", "<init>", "()V"⟩ : MethodName) 24 11 17 := ⟨_, rfl, by decide, Or.inr (Or.inr ⟨rfl, rfl, rfl, wf_m_24⟩)⟩
theorem fp_m_278 {y1 y2 : String} : FP ⟨"BrassYearModel", y1, y2⟩ 278 12 7 := ⟨_, rfl, by decide, Or.inr (Or.inl ⟨rfl, "BrassYearModel", wf_m_278⟩)⟩
theorem fp_m_27_i : FP (⟨"BrassYearModel", "<init>", "()V"⟩ : MethodName) 27 11 18 := ⟨_, rfl, by decide, Or.inr (Or.inr ⟨rfl, rfl, rfl, wf_m_27⟩)⟩
theorem fp_m_286 {y1 y2 : String} : FP ⟨"BrassYearModel", y1, y2⟩ 286 12 3 := ⟨_, rfl, by decide, Or.inr (Or.inl ⟨rfl, "BrassYearModel", wf_m_286⟩)⟩
theorem fp_m_289 {y1 y2 : String} : FP ⟨"BrassYearModel", y1, y2⟩ 289 12 4 := ⟨_, rfl, by decide, Or.inr (Or.inl ⟨rfl, "BrassYearModel", wf_m_289⟩)⟩
theorem fp_m_300 {y1 y2 : String} : FP ⟨"BrassYearModel", y1, y2⟩ 300 12 5 := ⟨_, rfl, by decide, Or.inr (Or.inl ⟨rfl, "BrassYearModel", wf_m_300⟩)⟩
theorem fp_m_30_i : FP (⟨"BrassYearModel", "<init>", "()V"⟩ : MethodName) 30 11 22 := ⟨_, rfl, by decide, Or.inr (Or.inr ⟨rfl, rfl, rfl, wf_m_30⟩)⟩
theorem fp_m_325 {y1 y2 : String} : FP ⟨"BrassYearModel", y1, y2⟩ 325 12 6 := ⟨_, rfl, by decide, Or.inr (Or.inl ⟨rfl, "BrassYearModel", wf_m_325⟩)⟩
theorem fp_m_328 {y1 y2 : String} : FP ⟨"BrassYearModel", y1, y2⟩ 328 12 8 := ⟨_, rfl, by decide, Or.inr (Or.inl ⟨rfl, "BrassYearModel", wf_m_328⟩)⟩
theorem fp_m_33_i : FP (⟨"BrassYearModel", "<init>", "()V"⟩ : MethodName) 33 11 24 := ⟨_, rfl, by decide, Or.inr (Or.inr ⟨rfl, rfl, rfl, wf_m_33⟩)⟩
theorem fp_m_341 {y1 y2 : String} : FP ⟨"BrassYearModel", y1, y2⟩ 341 11 6 := ⟨_, rfl, by decide, Or.inl ⟨rfl, wf_m_341⟩⟩
theorem fp_m_348 {y1 y2 : String} : FP ⟨"BrassYearModel", y1, y2⟩ 348 11 3 := ⟨_, rfl, by decide, Or.inl ⟨rfl, wf_m_348⟩⟩
theorem fp_m_351 {y1 y2 : String} : FP ⟨"BrassYearModel", y1, y2⟩ 351 11 19 := ⟨_, rfl, by decide, Or.inl ⟨rfl, wf_m_351⟩⟩
theorem fp_m_354 {y1 y2 : String} : FP ⟨"BrassYearModel", y1, y2⟩ 354 11 20 := ⟨_, rfl, by decide, Or.inl ⟨rfl, wf_m_354⟩⟩
theorem fp_m_363 {y1 y2 : String} : FP ⟨"BrassYearModel", y1, y2⟩ 363 11 21 := ⟨_, rfl, by decide, Or.inl ⟨rfl, wf_m_363⟩⟩
theorem fp_m_36_i : FP (⟨"BrassYearModel", "<init>", "()V"⟩ : MethodName) 36 11 25 := ⟨_, rfl, by decide, Or.inr (Or.inr ⟨rfl, rfl, rfl, wf_m_36⟩)⟩
theorem fp_m_39_i : FP (⟨"BrassYearModel", "<init>", "()V"⟩ : MethodName) 39 11 26 := ⟨_, rfl, by decide, Or.inr (Or.inr ⟨rfl, rfl, rfl, wf_m_39⟩)⟩
theorem fp_m_416 {y1 y2 : String} : FP ⟨"BrassYearModel", y1, y2⟩ 416 11 23 := ⟨_, rfl, by decide, Or.inl ⟨rfl, wf_m_416⟩⟩
theorem fp_m_42_i : FP (⟨"BrassYearModel", "<init>", "()V"⟩ : MethodName) 42 11 28 := ⟨_, rfl, by decide, Or.inr (Or.inr ⟨rfl, rfl, rfl, wf_m_42⟩)⟩
theorem fp_m_431 {y1 y2 : String} : FP ⟨"BrassYearModel", y1, y2⟩ 431 11 27 := ⟨_, rfl, by decide, Or.inl ⟨rfl, wf_m_431⟩⟩
theorem fp_m_449 {y1 y2 : String} : FP ⟨"BrassYearModel", y1, y2⟩ 449 11 30 := ⟨_, rfl, by decide, Or.inl ⟨rfl, wf_m_449⟩⟩
theorem fp_m_45_i : FP (⟨"BrassYearModel", "<init>", "()V"⟩ : MethodName) 45 11 29 := ⟨_, rfl, by decide, Or.inr (Or.inr ⟨rfl, rfl, rfl, wf_m_45⟩)⟩
theorem fp_m_461 {y1 y2 : String} : FP ⟨"BrassYearModel", y1, y2⟩ 461 11 31 := ⟨_, rfl, by decide, Or.inl ⟨rfl, wf_m_461⟩⟩
theorem fp_m_480 {y1 y2 : String} : FP ⟨"BrassYearModel", y1, y2⟩ 480 11 34 := ⟨_, rfl, by decide, Or.inl ⟨rfl, wf_m_480⟩⟩
theorem fp_m_48_i : FP (⟨"BrassYearModel", "<init>", "()V"⟩ : MethodName) 48 11 32 := ⟨_, rfl, by decide, Or.inr (Or.inr ⟨rfl, rfl, rfl, wf_m_48⟩)⟩
theorem fp_m_503 {y1 y2 : String} : FP ⟨"BrassYearModel", y1, y2⟩ 503 11 35 := ⟨_, rfl, by decide, Or.inl ⟨rfl, wf_m_503⟩⟩
theorem fp_m_51_i : FP (⟨"BrassYearModel", "<init>", "()V"⟩ : MethodName) 51 11 33 := ⟨_, rfl, by decide, Or.inr (Or.inr ⟨rfl, rfl, rfl, wf_m_51⟩)⟩
theorem fp_m_54 {y1 y2 : String} : FP ⟨"BrassYearModel", y1, y2⟩ 54 11 0 := ⟨_, rfl, by decide, Or.inl ⟨rfl, wf_m_54⟩⟩
theorem fp_m_57 {y1 y2 : String} : FP ⟨"BrassYearModel", y1, y2⟩ 57 11 1 := ⟨_, rfl, by decide, Or.inl ⟨rfl, wf_m_57⟩⟩
theorem fp_m_71 {y1 y2 : String} : FP ⟨"BrassYearModel", y1, y2⟩ 71 11 7 := ⟨_, rfl, by decide, Or.inl ⟨rfl, wf_m_71⟩⟩
theorem fp_m_86 {y1 y2 : String} : FP ⟨"BrassYearModel", y1, y2⟩ 86 11 9 := ⟨_, rfl, by decide, Or.inl ⟨rfl, wf_m_86⟩⟩
theorem fp_m_89 {y1 y2 : String} : FP ⟨"BrassYearModel", y1, y2⟩ 89 11 8 := ⟨_, rfl, by decide, Or.inl ⟨rfl, wf_m_89⟩⟩
theorem fp_m_9 {y1 y2 : String} : FP ⟨"BrassYearModel", y1, y2⟩ 9 11 2 := ⟨_, rfl, by decide, Or.inl ⟨rfl, wf_m_9⟩⟩
theorem fp_m_95 {y1 y2 : String} : FP ⟨"BrassYearModel", y1, y2⟩ 95 11 10 := ⟨_, rfl, by decide, Or.inl ⟨rfl, wf_m_95⟩⟩
theorem fp_m_9_i {y1 y2 : String} : FP ⟨"BrassYearModel", y1, y2⟩ 9 11 2 := ⟨_, rfl, by decide, Or.inl ⟨rfl, wf_m_9⟩⟩
theorem fp_n_15_i {y1 y2 : String} : FP ⟨"BrassYearModel$Orrery", y1, y2⟩ 15 12 7 := ⟨_, rfl, by decide, Or.inl ⟨rfl, wf_n_15⟩⟩
theorem fp_n_18_i : FP (⟨"BrassYearModel$Orrery", "<init>", "()V"⟩ : MethodName) 18 12 10 := ⟨_, rfl, by decide, Or.inr (Or.inr ⟨rfl, rfl, rfl, wf_n_18⟩)⟩
theorem fp_n_22_i : FP (⟨"BrassYearModel$Orrery", "<init>", "()V"⟩ : MethodName) 22 12 11 := ⟨_, rfl, by decide, Or.inr (Or.inr ⟨rfl, rfl, rfl, wf_n_22⟩)⟩
theorem fp_n_25_i : FP (⟨"BrassYearModel$Orrery", "<init>", "()V"⟩ : MethodName) 25 12 12 := ⟨_, rfl, by decide, Or.inr (Or.inr ⟨rfl, rfl, rfl, wf_n_25⟩)⟩
theorem fp_n_28_i : FP (⟨"BrassYearModel$Orrery", "<init>", "()V"⟩ : MethodName) 28 12 13 := ⟨_, rfl, by decide, Or.inr (Or.inr ⟨rfl, rfl, rfl, wf_n_28⟩)⟩
theorem fp_n_31_i : FP (⟨"BrassYearModel$Orrery", "<init>", "()V"⟩ : MethodName) 31 12 14 := ⟨_, rfl, by decide, Or.inr (Or.inr ⟨rfl, rfl, rfl, wf_n_31⟩)⟩
theorem fp_n_35_i : FP (⟨"BrassYearModel$Orrery", "<init>", "()V"⟩ : MethodName) 35 12 15 := ⟨_, rfl, by decide, Or.inr (Or.inr ⟨rfl, rfl, rfl, wf_n_35⟩)⟩
theorem fp_n_38_i : FP (⟨"BrassYearModel$Orrery", "<init>", "()V"⟩ : MethodName) 38 12 16 := ⟨_, rfl, by decide, Or.inr (Or.inr ⟨rfl, rfl, rfl, wf_n_38⟩)⟩
theorem fp_n_41_i : FP (⟨"BrassYearModel$Orrery", "<init>", "()V"⟩ : MethodName) 41 12 17 := ⟨_, rfl, by decide, Or.inr (Or.inr ⟨rfl, rfl, rfl, wf_n_41⟩)⟩
theorem fp_n_44_i : FP (⟨"BrassYearModel$Orrery", "<init>", "()V"⟩ : MethodName) 44 12 18 := ⟨_, rfl, by decide, Or.inr (Or.inr ⟨rfl, rfl, rfl, wf_n_44⟩)⟩
theorem fp_n_47_i : FP (⟨"BrassYearModel$Orrery", "<init>", "()V"⟩ : MethodName) 47 12 19 := ⟨_, rfl, by decide, Or.inr (Or.inr ⟨rfl, rfl, rfl, wf_n_47⟩)⟩
theorem fp_n_50_i : FP (⟨"BrassYearModel$Orrery", "<init>", "()V"⟩ : MethodName) 50 12 20 := ⟨_, rfl, by decide, Or.inr (Or.inr ⟨rfl, rfl, rfl, wf_n_50⟩)⟩
theorem fp_n_53_i : FP (⟨"BrassYearModel$Orrery", "<init>", "()V"⟩ : MethodName) 53 12 21 := ⟨_, rfl, by decide, Or.inr (Or.inr ⟨rfl, rfl, rfl, wf_n_53⟩)⟩
theorem fp_n_56_i : FP (⟨"BrassYearModel$Orrery", "<init>", "()V"⟩ : MethodName) 56 12 22 := ⟨_, rfl, by decide, Or.inr (Or.inr ⟨rfl, rfl, rfl, wf_n_56⟩)⟩
theorem fp_n_59_i : FP (⟨"BrassYearModel$Orrery", "<init>", "()V"⟩ : MethodName) 59 12 23 := ⟨_, rfl, by decide, Or.inr (Or.inr ⟨rfl, rfl, rfl, wf_n_59⟩)⟩
theorem fp_n_62_i : FP (⟨"BrassYearModel$Orrery", "<init>", "()V"⟩ : MethodName) 62 12 24 := ⟨_, rfl, by decide, Or.inr (Or.inr ⟨rfl, rfl, rfl, wf_n_62⟩)⟩
theorem fp_n_65_i : FP (⟨"BrassYearModel$Orrery", "<init>", "()V"⟩ : MethodName) 65 12 25 := ⟨_, rfl, by decide, Or.inr (Or.inr ⟨rfl, rfl, rfl, wf_n_65⟩)⟩
theorem fp_n_68_i : FP (⟨"BrassYearModel$Orrery", "<init>", "()V"⟩ : MethodName) 68 12 26 := ⟨_, rfl, by decide, Or.inr (Or.inr ⟨rfl, rfl, rfl, wf_n_68⟩)⟩
theorem fp_n_9_i {y1 y2 : String} : FP ⟨"BrassYearModel$Orrery", y1, y2⟩ 9 12 0 := ⟨_, rfl, by decide, Or.inl ⟨rfl, wf_n_9⟩⟩
theorem lac_i : Lk (.initialized "java/lang/System") := ⟨List.mem_of_getElem? (i := 143) (by decide +kernel), rfl⟩
theorem lac_n : Lk (.native arraycopyName) := ⟨List.mem_of_getElem? (i := 1008) (by decide +kernel), rfl⟩
theorem lac_s : Lk (.static arraycopyName) := ⟨List.mem_of_getElem? (i := 1007) (by decide +kernel), rfl⟩
theorem lc_Arr_fillI : LkC M_Arr_fillI 2 := ⟨⟨List.mem_of_getElem? (i := 635) (by decide +kernel), rfl⟩, ⟨List.mem_of_getElem? (i := 137) (by decide +kernel), rfl⟩, by decide +kernel, by decide +kernel, rfl⟩
theorem lc_Arr_fillJ : LkC M_Arr_fillJ 2 := ⟨⟨List.mem_of_getElem? (i := 1193) (by decide +kernel), rfl⟩, ⟨List.mem_of_getElem? (i := 137) (by decide +kernel), rfl⟩, by decide +kernel, by decide +kernel, rfl⟩
theorem lc_B_agree : LkC M_B_agree 1 := ⟨⟨List.mem_of_getElem? (i := 1064) (by decide +kernel), rfl⟩, ⟨List.mem_of_getElem? (i := 124) (by decide +kernel), rfl⟩, by decide +kernel, by decide +kernel, rfl⟩
theorem lc_B_allow : LkC M_B_allow 0 := ⟨⟨List.mem_of_getElem? (i := 1279) (by decide +kernel), rfl⟩, ⟨List.mem_of_getElem? (i := 124) (by decide +kernel), rfl⟩, by decide +kernel, by decide +kernel, rfl⟩
theorem lc_B_append : LkC M_B_append 1 := ⟨⟨List.mem_of_getElem? (i := 613) (by decide +kernel), rfl⟩, ⟨List.mem_of_getElem? (i := 124) (by decide +kernel), rfl⟩, by decide +kernel, by decide +kernel, rfl⟩
theorem lc_B_back : LkC M_B_back 1 := ⟨⟨List.mem_of_getElem? (i := 1299) (by decide +kernel), rfl⟩, ⟨List.mem_of_getElem? (i := 124) (by decide +kernel), rfl⟩, by decide +kernel, by decide +kernel, rfl⟩
theorem lc_B_byFor : LkC M_B_byFor 2 := ⟨⟨List.mem_of_getElem? (i := 1013) (by decide +kernel), rfl⟩, ⟨List.mem_of_getElem? (i := 124) (by decide +kernel), rfl⟩, by decide +kernel, by decide +kernel, rfl⟩
theorem lc_B_byIn : LkC M_B_byIn 2 := ⟨⟨List.mem_of_getElem? (i := 1026) (by decide +kernel), rfl⟩, ⟨List.mem_of_getElem? (i := 124) (by decide +kernel), rfl⟩, by decide +kernel, by decide +kernel, rfl⟩
theorem lc_B_comesRound : LkC M_B_comesRound 1 := ⟨⟨List.mem_of_getElem? (i := 894) (by decide +kernel), rfl⟩, ⟨List.mem_of_getElem? (i := 124) (by decide +kernel), rfl⟩, by decide +kernel, by decide +kernel, rfl⟩
theorem lc_B_courseOf : LkC M_B_courseOf 1 := ⟨⟨List.mem_of_getElem? (i := 845) (by decide +kernel), rfl⟩, ⟨List.mem_of_getElem? (i := 124) (by decide +kernel), rfl⟩, by decide +kernel, by decide +kernel, rfl⟩
theorem lc_B_daysToCome : LkC M_B_daysToCome 0 := ⟨⟨List.mem_of_getElem? (i := 918) (by decide +kernel), rfl⟩, ⟨List.mem_of_getElem? (i := 124) (by decide +kernel), rfl⟩, by decide +kernel, by decide +kernel, rfl⟩
theorem lc_B_deny : LkC M_B_deny 1 := ⟨⟨List.mem_of_getElem? (i := 1275) (by decide +kernel), rfl⟩, ⟨List.mem_of_getElem? (i := 124) (by decide +kernel), rfl⟩, by decide +kernel, by decide +kernel, rfl⟩
theorem lc_B_drift : LkC M_B_drift 1 := ⟨⟨List.mem_of_getElem? (i := 1073) (by decide +kernel), rfl⟩, ⟨List.mem_of_getElem? (i := 124) (by decide +kernel), rfl⟩, by decide +kernel, by decide +kernel, rfl⟩
theorem lc_B_fault : LkC M_B_fault 0 := ⟨⟨List.mem_of_getElem? (i := 790) (by decide +kernel), rfl⟩, ⟨List.mem_of_getElem? (i := 124) (by decide +kernel), rfl⟩, by decide +kernel, by decide +kernel, rfl⟩
theorem lc_B_feed : LkC M_B_feed 5 := ⟨⟨List.mem_of_getElem? (i := 609) (by decide +kernel), rfl⟩, ⟨List.mem_of_getElem? (i := 124) (by decide +kernel), rfl⟩, by decide +kernel, by decide +kernel, rfl⟩
theorem lc_B_fitAt : LkC M_B_fitAt 1 := ⟨⟨List.mem_of_getElem? (i := 1126) (by decide +kernel), rfl⟩, ⟨List.mem_of_getElem? (i := 124) (by decide +kernel), rfl⟩, by decide +kernel, by decide +kernel, rfl⟩
theorem lc_B_fits : LkC M_B_fits 0 := ⟨⟨List.mem_of_getElem? (i := 1083) (by decide +kernel), rfl⟩, ⟨List.mem_of_getElem? (i := 124) (by decide +kernel), rfl⟩, by decide +kernel, by decide +kernel, rfl⟩
theorem lc_B_grant : LkC M_B_grant 1 := ⟨⟨List.mem_of_getElem? (i := 786) (by decide +kernel), rfl⟩, ⟨List.mem_of_getElem? (i := 124) (by decide +kernel), rfl⟩, by decide +kernel, by decide +kernel, rfl⟩
theorem lc_B_hasFeast : LkC M_B_hasFeast 1 := ⟨⟨List.mem_of_getElem? (i := 914) (by decide +kernel), rfl⟩, ⟨List.mem_of_getElem? (i := 124) (by decide +kernel), rfl⟩, by decide +kernel, by decide +kernel, rfl⟩
theorem lc_B_hasOrrery : LkC M_B_hasOrrery 0 := ⟨⟨List.mem_of_getElem? (i := 824) (by decide +kernel), rfl⟩, ⟨List.mem_of_getElem? (i := 124) (by decide +kernel), rfl⟩, by decide +kernel, by decide +kernel, rfl⟩
theorem lc_B_hasWheel : LkC M_B_hasWheel 1 := ⟨⟨List.mem_of_getElem? (i := 802) (by decide +kernel), rfl⟩, ⟨List.mem_of_getElem? (i := 124) (by decide +kernel), rfl⟩, by decide +kernel, by decide +kernel, rfl⟩
theorem lc_B_hasWheelOfFeast : LkC M_B_hasWheelOfFeast 2 := ⟨⟨List.mem_of_getElem? (i := 991) (by decide +kernel), rfl⟩, ⟨List.mem_of_getElem? (i := 124) (by decide +kernel), rfl⟩, by decide +kernel, by decide +kernel, rfl⟩
theorem lc_B_idle : LkC M_B_idle 1 := ⟨⟨List.mem_of_getElem? (i := 902) (by decide +kernel), rfl⟩, ⟨List.mem_of_getElem? (i := 124) (by decide +kernel), rfl⟩, by decide +kernel, by decide +kernel, rfl⟩
theorem lc_B_image : LkC M_B_image 0 := ⟨⟨List.mem_of_getElem? (i := 1291) (by decide +kernel), rfl⟩, ⟨List.mem_of_getElem? (i := 124) (by decide +kernel), rfl⟩, by decide +kernel, by decide +kernel, rfl⟩
theorem lc_B_inTime : LkC M_B_inTime 0 := ⟨⟨List.mem_of_getElem? (i := 1060) (by decide +kernel), rfl⟩, ⟨List.mem_of_getElem? (i := 124) (by decide +kernel), rfl⟩, by decide +kernel, by decide +kernel, rfl⟩
theorem lc_B_init : LkC M_B_init 0 := ⟨⟨List.mem_of_getElem? (i := 152) (by decide +kernel), rfl⟩, ⟨List.mem_of_getElem? (i := 124) (by decide +kernel), rfl⟩, by decide +kernel, by decide +kernel, rfl⟩
theorem lc_B_isGone : LkC M_B_isGone 2 := ⟨⟨List.mem_of_getElem? (i := 811) (by decide +kernel), rfl⟩, ⟨List.mem_of_getElem? (i := 124) (by decide +kernel), rfl⟩, by decide +kernel, by decide +kernel, rfl⟩
theorem lc_B_isNoYear : LkC M_B_isNoYear 2 := ⟨⟨List.mem_of_getElem? (i := 1225) (by decide +kernel), rfl⟩, ⟨List.mem_of_getElem? (i := 124) (by decide +kernel), rfl⟩, by decide +kernel, by decide +kernel, rfl⟩
theorem lc_B_jerkMean : LkC M_B_jerkMean 3 := ⟨⟨List.mem_of_getElem? (i := 1218) (by decide +kernel), rfl⟩, ⟨List.mem_of_getElem? (i := 124) (by decide +kernel), rfl⟩, by decide +kernel, by decide +kernel, rfl⟩
theorem lc_B_jerks : LkC M_B_jerks 2 := ⟨⟨List.mem_of_getElem? (i := 886) (by decide +kernel), rfl⟩, ⟨List.mem_of_getElem? (i := 124) (by decide +kernel), rfl⟩, by decide +kernel, by decide +kernel, rfl⟩
theorem lc_B_judge : LkC M_B_judge 1 := ⟨⟨List.mem_of_getElem? (i := 1138) (by decide +kernel), rfl⟩, ⟨List.mem_of_getElem? (i := 124) (by decide +kernel), rfl⟩, by decide +kernel, by decide +kernel, rfl⟩
theorem lc_B_led : LkC M_B_led 1 := ⟨⟨List.mem_of_getElem? (i := 1328) (by decide +kernel), rfl⟩, ⟨List.mem_of_getElem? (i := 124) (by decide +kernel), rfl⟩, by decide +kernel, by decide +kernel, rfl⟩
theorem lc_B_likely : LkC M_B_likely 4 := ⟨⟨List.mem_of_getElem? (i := 1186) (by decide +kernel), rfl⟩, ⟨List.mem_of_getElem? (i := 124) (by decide +kernel), rfl⟩, by decide +kernel, by decide +kernel, rfl⟩
theorem lc_B_lineAt : LkC M_B_lineAt 1 := ⟨⟨List.mem_of_getElem? (i := 1056) (by decide +kernel), rfl⟩, ⟨List.mem_of_getElem? (i := 124) (by decide +kernel), rfl⟩, by decide +kernel, by decide +kernel, rfl⟩
theorem lc_B_lineWorth : LkC M_B_lineWorth 0 := ⟨⟨List.mem_of_getElem? (i := 1042) (by decide +kernel), rfl⟩, ⟨List.mem_of_getElem? (i := 124) (by decide +kernel), rfl⟩, by decide +kernel, by decide +kernel, rfl⟩
theorem lc_B_liveYears : LkC M_B_liveYears 3 := ⟨⟨List.mem_of_getElem? (i := 1230) (by decide +kernel), rfl⟩, ⟨List.mem_of_getElem? (i := 124) (by decide +kernel), rfl⟩, by decide +kernel, by decide +kernel, rfl⟩
theorem lc_B_longestGap : LkC M_B_longestGap 1 := ⟨⟨List.mem_of_getElem? (i := 979) (by decide +kernel), rfl⟩, ⟨List.mem_of_getElem? (i := 124) (by decide +kernel), rfl⟩, by decide +kernel, by decide +kernel, rfl⟩
theorem lc_B_look : LkC M_B_look 0 := ⟨⟨List.mem_of_getElem? (i := 1130) (by decide +kernel), rfl⟩, ⟨List.mem_of_getElem? (i := 124) (by decide +kernel), rfl⟩, by decide +kernel, by decide +kernel, rfl⟩
theorem lc_B_lookLeaves : LkC M_B_lookLeaves 0 := ⟨⟨List.mem_of_getElem? (i := 1134) (by decide +kernel), rfl⟩, ⟨List.mem_of_getElem? (i := 124) (by decide +kernel), rfl⟩, by decide +kernel, by decide +kernel, rfl⟩
theorem lc_B_meet : LkC M_B_meet 2 := ⟨⟨List.mem_of_getElem? (i := 963) (by decide +kernel), rfl⟩, ⟨List.mem_of_getElem? (i := 124) (by decide +kernel), rfl⟩, by decide +kernel, by decide +kernel, rfl⟩
theorem lc_B_moves : LkC M_B_moves 2 := ⟨⟨List.mem_of_getElem? (i := 1182) (by decide +kernel), rfl⟩, ⟨List.mem_of_getElem? (i := 124) (by decide +kernel), rfl⟩, by decide +kernel, by decide +kernel, rfl⟩
theorem lc_B_next : LkC M_B_next 1 := ⟨⟨List.mem_of_getElem? (i := 910) (by decide +kernel), rfl⟩, ⟨List.mem_of_getElem? (i := 124) (by decide +kernel), rfl⟩, by decide +kernel, by decide +kernel, rfl⟩
theorem lc_B_now : LkC M_B_now 1 := ⟨⟨List.mem_of_getElem? (i := 820) (by decide +kernel), rfl⟩, ⟨List.mem_of_getElem? (i := 124) (by decide +kernel), rfl⟩, by decide +kernel, by decide +kernel, rfl⟩
theorem lc_B_often : LkC M_B_often 2 := ⟨⟨List.mem_of_getElem? (i := 954) (by decide +kernel), rfl⟩, ⟨List.mem_of_getElem? (i := 124) (by decide +kernel), rfl⟩, by decide +kernel, by decide +kernel, rfl⟩
theorem lc_B_oil : LkC M_B_oil 1 := ⟨⟨List.mem_of_getElem? (i := 1266) (by decide +kernel), rfl⟩, ⟨List.mem_of_getElem? (i := 124) (by decide +kernel), rfl⟩, by decide +kernel, by decide +kernel, rfl⟩
theorem lc_B_orrery : LkC M_B_orrery 1 := ⟨⟨List.mem_of_getElem? (i := 617) (by decide +kernel), rfl⟩, ⟨List.mem_of_getElem? (i := 124) (by decide +kernel), rfl⟩, by decide +kernel, by decide +kernel, rfl⟩
theorem lc_B_refuse : LkC M_B_refuse 1 := ⟨⟨List.mem_of_getElem? (i := 621) (by decide +kernel), rfl⟩, ⟨List.mem_of_getElem? (i := 124) (by decide +kernel), rfl⟩, by decide +kernel, by decide +kernel, rfl⟩
theorem lc_B_remainder : LkC M_B_remainder 2 := ⟨⟨List.mem_of_getElem? (i := 882) (by decide +kernel), rfl⟩, ⟨List.mem_of_getElem? (i := 124) (by decide +kernel), rfl⟩, by decide +kernel, by decide +kernel, rfl⟩
theorem lc_B_set : LkC M_B_set 2 := ⟨⟨List.mem_of_getElem? (i := 1271) (by decide +kernel), rfl⟩, ⟨List.mem_of_getElem? (i := 124) (by decide +kernel), rfl⟩, by decide +kernel, by decide +kernel, rfl⟩
theorem lc_B_setFor : LkC M_B_setFor 3 := ⟨⟨List.mem_of_getElem? (i := 987) (by decide +kernel), rfl⟩, ⟨List.mem_of_getElem? (i := 124) (by decide +kernel), rfl⟩, by decide +kernel, by decide +kernel, rfl⟩
theorem lc_B_settings : LkC M_B_settings 2 := ⟨⟨List.mem_of_getElem? (i := 1030) (by decide +kernel), rfl⟩, ⟨List.mem_of_getElem? (i := 124) (by decide +kernel), rfl⟩, by decide +kernel, by decide +kernel, rfl⟩
theorem lc_B_size : LkC M_B_size 1 := ⟨⟨List.mem_of_getElem? (i := 1307) (by decide +kernel), rfl⟩, ⟨List.mem_of_getElem? (i := 124) (by decide +kernel), rfl⟩, by decide +kernel, by decide +kernel, rfl⟩
theorem lc_B_slips : LkC M_B_slips 2 := ⟨⟨List.mem_of_getElem? (i := 1246) (by decide +kernel), rfl⟩, ⟨List.mem_of_getElem? (i := 124) (by decide +kernel), rfl⟩, by decide +kernel, by decide +kernel, rfl⟩
theorem lc_B_soonest : LkC M_B_soonest 0 := ⟨⟨List.mem_of_getElem? (i := 971) (by decide +kernel), rfl⟩, ⟨List.mem_of_getElem? (i := 124) (by decide +kernel), rfl⟩, by decide +kernel, by decide +kernel, rfl⟩
theorem lc_B_suspectTrouble : LkC M_B_suspectTrouble 0 := ⟨⟨List.mem_of_getElem? (i := 1087) (by decide +kernel), rfl⟩, ⟨List.mem_of_getElem? (i := 124) (by decide +kernel), rfl⟩, by decide +kernel, by decide +kernel, rfl⟩
theorem lc_B_toothIn : LkC M_B_toothIn 2 := ⟨⟨List.mem_of_getElem? (i := 840) (by decide +kernel), rfl⟩, ⟨List.mem_of_getElem? (i := 124) (by decide +kernel), rfl⟩, by decide +kernel, by decide +kernel, rfl⟩
theorem lc_B_trouble : LkC M_B_trouble 0 := ⟨⟨List.mem_of_getElem? (i := 1320) (by decide +kernel), rfl⟩, ⟨List.mem_of_getElem? (i := 124) (by decide +kernel), rfl⟩, by decide +kernel, by decide +kernel, rfl⟩
theorem lc_B_turn : LkC M_B_turn 0 := ⟨⟨List.mem_of_getElem? (i := 1250) (by decide +kernel), rfl⟩, ⟨List.mem_of_getElem? (i := 124) (by decide +kernel), rfl⟩, by decide +kernel, by decide +kernel, rfl⟩
theorem lc_B_turnBack : LkC M_B_turnBack 0 := ⟨⟨List.mem_of_getElem? (i := 1261) (by decide +kernel), rfl⟩, ⟨List.mem_of_getElem? (i := 124) (by decide +kernel), rfl⟩, by decide +kernel, by decide +kernel, rfl⟩
theorem lc_B_undo : LkC M_B_undo 0 := ⟨⟨List.mem_of_getElem? (i := 1283) (by decide +kernel), rfl⟩, ⟨List.mem_of_getElem? (i := 124) (by decide +kernel), rfl⟩, by decide +kernel, by decide +kernel, rfl⟩
theorem lc_B_value : LkC M_B_value 2 := ⟨⟨List.mem_of_getElem? (i := 1143) (by decide +kernel), rfl⟩, ⟨List.mem_of_getElem? (i := 124) (by decide +kernel), rfl⟩, by decide +kernel, by decide +kernel, rfl⟩
theorem lc_B_wheel : LkC M_B_wheel 2 := ⟨⟨List.mem_of_getElem? (i := 798) (by decide +kernel), rfl⟩, ⟨List.mem_of_getElem? (i := 124) (by decide +kernel), rfl⟩, by decide +kernel, by decide +kernel, rfl⟩
theorem lc_B_where : LkC M_B_where 0 := ⟨⟨List.mem_of_getElem? (i := 794) (by decide +kernel), rfl⟩, ⟨List.mem_of_getElem? (i := 124) (by decide +kernel), rfl⟩, by decide +kernel, by decide +kernel, rfl⟩
theorem lc_B_work : LkC M_B_work 2 := ⟨⟨List.mem_of_getElem? (i := 836) (by decide +kernel), rfl⟩, ⟨List.mem_of_getElem? (i := 124) (by decide +kernel), rfl⟩, by decide +kernel, by decide +kernel, rfl⟩
theorem lc_B_yearFeasts : LkC M_B_yearFeasts 3 := ⟨⟨List.mem_of_getElem? (i := 1242) (by decide +kernel), rfl⟩, ⟨List.mem_of_getElem? (i := 124) (by decide +kernel), rfl⟩, by decide +kernel, by decide +kernel, rfl⟩
theorem lc_B_years : LkC M_B_years 3 := ⟨⟨List.mem_of_getElem? (i := 1222) (by decide +kernel), rfl⟩, ⟨List.mem_of_getElem? (i := 124) (by decide +kernel), rfl⟩, by decide +kernel, by decide +kernel, rfl⟩
theorem lc_C_agreeingFrom : LkC M_C_agreeingFrom 2 := ⟨⟨List.mem_of_getElem? (i := 1069) (by decide +kernel), rfl⟩, ⟨List.mem_of_getElem? (i := 129) (by decide +kernel), rfl⟩, by decide +kernel, by decide +kernel, rfl⟩
theorem lc_C_countSettings : LkC M_C_countSettings 2 := ⟨⟨List.mem_of_getElem? (i := 1038) (by decide +kernel), rfl⟩, ⟨List.mem_of_getElem? (i := 129) (by decide +kernel), rfl⟩, by decide +kernel, by decide +kernel, rfl⟩
theorem lc_C_courseFrom : LkC M_C_courseFrom 3 := ⟨⟨List.mem_of_getElem? (i := 849) (by decide +kernel), rfl⟩, ⟨List.mem_of_getElem? (i := 129) (by decide +kernel), rfl⟩, by decide +kernel, by decide +kernel, rfl⟩
theorem lc_C_feastFrom : LkC M_C_feastFrom 3 := ⟨⟨List.mem_of_getElem? (i := 927) (by decide +kernel), rfl⟩, ⟨List.mem_of_getElem? (i := 129) (by decide +kernel), rfl⟩, by decide +kernel, by decide +kernel, rfl⟩
theorem lc_C_feastsUntil : LkC M_C_feastsUntil 2 := ⟨⟨List.mem_of_getElem? (i := 958) (by decide +kernel), rfl⟩, ⟨List.mem_of_getElem? (i := 129) (by decide +kernel), rfl⟩, by decide +kernel, by decide +kernel, rfl⟩
theorem lc_C_findReached : LkC M_C_findReached 2 := ⟨⟨List.mem_of_getElem? (i := 1001) (by decide +kernel), rfl⟩, ⟨List.mem_of_getElem? (i := 129) (by decide +kernel), rfl⟩, by decide +kernel, by decide +kernel, rfl⟩
theorem lc_C_firstDay : LkC M_C_firstDay 5 := ⟨⟨List.mem_of_getElem? (i := 931) (by decide +kernel), rfl⟩, ⟨List.mem_of_getElem? (i := 129) (by decide +kernel), rfl⟩, by decide +kernel, by decide +kernel, rfl⟩
theorem lc_C_init : LkC M_C_init 0 := ⟨⟨List.mem_of_getElem? (i := 383) (by decide +kernel), rfl⟩, ⟨List.mem_of_getElem? (i := 129) (by decide +kernel), rfl⟩, by decide +kernel, by decide +kernel, rfl⟩
theorem lc_C_meetingFrom : LkC M_C_meetingFrom 3 := ⟨⟨List.mem_of_getElem? (i := 967) (by decide +kernel), rfl⟩, ⟨List.mem_of_getElem? (i := 129) (by decide +kernel), rfl⟩, by decide +kernel, by decide +kernel, rfl⟩
theorem lc_C_settingFor : LkC M_C_settingFor 3 := ⟨⟨List.mem_of_getElem? (i := 996) (by decide +kernel), rfl⟩, ⟨List.mem_of_getElem? (i := 129) (by decide +kernel), rfl⟩, by decide +kernel, by decide +kernel, rfl⟩
theorem lc_C_settingsFor : LkC M_C_settingsFor 2 := ⟨⟨List.mem_of_getElem? (i := 1034) (by decide +kernel), rfl⟩, ⟨List.mem_of_getElem? (i := 129) (by decide +kernel), rfl⟩, by decide +kernel, by decide +kernel, rfl⟩
theorem lc_C_soonestFeast : LkC M_C_soonestFeast 0 := ⟨⟨List.mem_of_getElem? (i := 975) (by decide +kernel), rfl⟩, ⟨List.mem_of_getElem? (i := 129) (by decide +kernel), rfl⟩, by decide +kernel, by decide +kernel, rfl⟩
theorem lc_C_startFrom : LkC M_C_startFrom 2 := ⟨⟨List.mem_of_getElem? (i := 922) (by decide +kernel), rfl⟩, ⟨List.mem_of_getElem? (i := 129) (by decide +kernel), rfl⟩, by decide +kernel, by decide +kernel, rfl⟩
theorem lc_C_tryBys : LkC M_C_tryBys 2 := ⟨⟨List.mem_of_getElem? (i := 1017) (by decide +kernel), rfl⟩, ⟨List.mem_of_getElem? (i := 129) (by decide +kernel), rfl⟩, by decide +kernel, by decide +kernel, rfl⟩
theorem lc_C_waitFor : LkC M_C_waitFor 2 := ⟨⟨List.mem_of_getElem? (i := 935) (by decide +kernel), rfl⟩, ⟨List.mem_of_getElem? (i := 129) (by decide +kernel), rfl⟩, by decide +kernel, by decide +kernel, rfl⟩
theorem lc_C_widestGap : LkC M_C_widestGap 1 := ⟨⟨List.mem_of_getElem? (i := 983) (by decide +kernel), rfl⟩, ⟨List.mem_of_getElem? (i := 129) (by decide +kernel), rfl⟩, by decide +kernel, by decide +kernel, rfl⟩
theorem lc_G_init : LkC M_G_init 0 := ⟨⟨List.mem_of_getElem? (i := 518) (by decide +kernel), rfl⟩, ⟨List.mem_of_getElem? (i := 133) (by decide +kernel), rfl⟩, by decide +kernel, by decide +kernel, rfl⟩
theorem lc_G_makeMove : LkC M_G_makeMove 2 := ⟨⟨List.mem_of_getElem? (i := 1156) (by decide +kernel), rfl⟩, ⟨List.mem_of_getElem? (i := 133) (by decide +kernel), rfl⟩, by decide +kernel, by decide +kernel, rfl⟩
theorem lc_G_play : LkC M_G_play 4 := ⟨⟨List.mem_of_getElem? (i := 1147) (by decide +kernel), rfl⟩, ⟨List.mem_of_getElem? (i := 133) (by decide +kernel), rfl⟩, by decide +kernel, by decide +kernel, rfl⟩
theorem lc_G_worth : LkC M_G_worth 2 := ⟨⟨List.mem_of_getElem? (i := 1152) (by decide +kernel), rfl⟩, ⟨List.mem_of_getElem? (i := 133) (by decide +kernel), rfl⟩, by decide +kernel, by decide +kernel, rfl⟩
theorem lc_H_commonDivisor : LkC M_H_commonDivisor 2 := ⟨⟨List.mem_of_getElem? (i := 1214) (by decide +kernel), rfl⟩, ⟨List.mem_of_getElem? (i := 134) (by decide +kernel), rfl⟩, by decide +kernel, by decide +kernel, rfl⟩
theorem lc_H_goOn : LkC M_H_goOn 4 := ⟨⟨List.mem_of_getElem? (i := 1203) (by decide +kernel), rfl⟩, ⟨List.mem_of_getElem? (i := 134) (by decide +kernel), rfl⟩, by decide +kernel, by decide +kernel, rfl⟩
theorem lc_H_init : LkC M_H_init 0 := ⟨⟨List.mem_of_getElem? (i := 540) (by decide +kernel), rfl⟩, ⟨List.mem_of_getElem? (i := 134) (by decide +kernel), rfl⟩, by decide +kernel, by decide +kernel, rfl⟩
theorem lc_H_lowest : LkC M_H_lowest 2 := ⟨⟨List.mem_of_getElem? (i := 1211) (by decide +kernel), rfl⟩, ⟨List.mem_of_getElem? (i := 134) (by decide +kernel), rfl⟩, by decide +kernel, by decide +kernel, rfl⟩
theorem lc_H_spread : LkC M_H_spread 4 := ⟨⟨List.mem_of_getElem? (i := 1190) (by decide +kernel), rfl⟩, ⟨List.mem_of_getElem? (i := 134) (by decide +kernel), rfl⟩, by decide +kernel, by decide +kernel, rfl⟩
theorem lc_H_spreadDay : LkC M_H_spreadDay 3 := ⟨⟨List.mem_of_getElem? (i := 1198) (by decide +kernel), rfl⟩, ⟨List.mem_of_getElem? (i := 134) (by decide +kernel), rfl⟩, by decide +kernel, by decide +kernel, rfl⟩
theorem lc_K_extend : LkC M_K_extend 5 := ⟨⟨List.mem_of_getElem? (i := 1051) (by decide +kernel), rfl⟩, ⟨List.mem_of_getElem? (i := 131) (by decide +kernel), rfl⟩, by decide +kernel, by decide +kernel, rfl⟩
theorem lc_K_init : LkC M_K_init 0 := ⟨⟨List.mem_of_getElem? (i := 453) (by decide +kernel), rfl⟩, ⟨List.mem_of_getElem? (i := 131) (by decide +kernel), rfl⟩, by decide +kernel, by decide +kernel, rfl⟩
theorem lc_K_plan : LkC M_K_plan 2 := ⟨⟨List.mem_of_getElem? (i := 1046) (by decide +kernel), rfl⟩, ⟨List.mem_of_getElem? (i := 131) (by decide +kernel), rfl⟩, by decide +kernel, by decide +kernel, rfl⟩
theorem lc_Lat_charAt : LkC M_Lat_charAt 2 := ⟨⟨List.mem_of_getElem? (i := 1685) (by decide +kernel), rfl⟩, ⟨List.mem_of_getElem? (i := 140) (by decide +kernel), rfl⟩, by decide +kernel, by decide +kernel, rfl⟩
theorem lc_Math_max : LkC M_Math_max 2 := ⟨⟨List.mem_of_getElem? (i := 870) (by decide +kernel), rfl⟩, ⟨List.mem_of_getElem? (i := 136) (by decide +kernel), rfl⟩, by decide +kernel, by decide +kernel, rfl⟩
theorem lc_Math_min : LkC M_Math_min 2 := ⟨⟨List.mem_of_getElem? (i := 628) (by decide +kernel), rfl⟩, ⟨List.mem_of_getElem? (i := 136) (by decide +kernel), rfl⟩, by decide +kernel, by decide +kernel, rfl⟩
theorem lc_O_clear : LkC M_O_clear 0 := ⟨⟨List.mem_of_getElem? (i := 632) (by decide +kernel), rfl⟩, ⟨List.mem_of_getElem? (i := 126) (by decide +kernel), rfl⟩, by decide +kernel, by decide +kernel, rfl⟩
theorem lc_O_daysFromSky : LkC M_O_daysFromSky 2 := ⟨⟨List.mem_of_getElem? (i := 1077) (by decide +kernel), rfl⟩, ⟨List.mem_of_getElem? (i := 126) (by decide +kernel), rfl⟩, by decide +kernel, by decide +kernel, rfl⟩
theorem lc_O_daysToSky : LkC M_O_daysToSky 2 := ⟨⟨List.mem_of_getElem? (i := 949) (by decide +kernel), rfl⟩, ⟨List.mem_of_getElem? (i := 126) (by decide +kernel), rfl⟩, by decide +kernel, by decide +kernel, rfl⟩
theorem lc_O_feastTooth : LkC M_O_feastTooth 2 := ⟨⟨List.mem_of_getElem? (i := 741) (by decide +kernel), rfl⟩, ⟨List.mem_of_getElem? (i := 126) (by decide +kernel), rfl⟩, by decide +kernel, by decide +kernel, rfl⟩
theorem lc_O_feastsOfWheel : LkC M_O_feastsOfWheel 1 := ⟨⟨List.mem_of_getElem? (i := 806) (by decide +kernel), rfl⟩, ⟨List.mem_of_getElem? (i := 126) (by decide +kernel), rfl⟩, by decide +kernel, by decide +kernel, rfl⟩
theorem lc_O_feastsOn : LkC M_O_feastsOn 1 := ⟨⟨List.mem_of_getElem? (i := 828) (by decide +kernel), rfl⟩, ⟨List.mem_of_getElem? (i := 126) (by decide +kernel), rfl⟩, by decide +kernel, by decide +kernel, rfl⟩
theorem lc_O_goTurn : LkC M_O_goTurn 1 := ⟨⟨List.mem_of_getElem? (i := 1160) (by decide +kernel), rfl⟩, ⟨List.mem_of_getElem? (i := 126) (by decide +kernel), rfl⟩, by decide +kernel, by decide +kernel, rfl⟩
theorem lc_O_goTurnBack : LkC M_O_goTurnBack 1 := ⟨⟨List.mem_of_getElem? (i := 1177) (by decide +kernel), rfl⟩, ⟨List.mem_of_getElem? (i := 126) (by decide +kernel), rfl⟩, by decide +kernel, by decide +kernel, rfl⟩
theorem lc_O_goneTeeth : LkC M_O_goneTeeth 0 := ⟨⟨List.mem_of_getElem? (i := 1311) (by decide +kernel), rfl⟩, ⟨List.mem_of_getElem? (i := 126) (by decide +kernel), rfl⟩, by decide +kernel, by decide +kernel, rfl⟩
theorem lc_O_hasSky : LkC M_O_hasSky 1 := ⟨⟨List.mem_of_getElem? (i := 759) (by decide +kernel), rfl⟩, ⟨List.mem_of_getElem? (i := 126) (by decide +kernel), rfl⟩, by decide +kernel, by decide +kernel, rfl⟩
theorem lc_O_init : LkC M_O_init 0 := ⟨⟨List.mem_of_getElem? (i := 219) (by decide +kernel), rfl⟩, ⟨List.mem_of_getElem? (i := 126) (by decide +kernel), rfl⟩, by decide +kernel, by decide +kernel, rfl⟩
theorem lc_O_isOn : LkC M_O_isOn 2 := ⟨⟨List.mem_of_getElem? (i := 832) (by decide +kernel), rfl⟩, ⟨List.mem_of_getElem? (i := 126) (by decide +kernel), rfl⟩, by decide +kernel, by decide +kernel, rfl⟩
theorem lc_O_moveAll : LkC M_O_moveAll 2 := ⟨⟨List.mem_of_getElem? (i := 1164) (by decide +kernel), rfl⟩, ⟨List.mem_of_getElem? (i := 126) (by decide +kernel), rfl⟩, by decide +kernel, by decide +kernel, rfl⟩
theorem lc_O_moveOne : LkC M_O_moveOne 4 := ⟨⟨List.mem_of_getElem? (i := 1170) (by decide +kernel), rfl⟩, ⟨List.mem_of_getElem? (i := 126) (by decide +kernel), rfl⟩, by decide +kernel, by decide +kernel, rfl⟩
theorem lc_O_putAtFirst : LkC M_O_putAtFirst 1 := ⟨⟨List.mem_of_getElem? (i := 774) (by decide +kernel), rfl⟩, ⟨List.mem_of_getElem? (i := 126) (by decide +kernel), rfl⟩, by decide +kernel, by decide +kernel, rfl⟩
theorem lc_O_putFeastTooth : LkC M_O_putFeastTooth 3 := ⟨⟨List.mem_of_getElem? (i := 745) (by decide +kernel), rfl⟩, ⟨List.mem_of_getElem? (i := 126) (by decide +kernel), rfl⟩, by decide +kernel, by decide +kernel, rfl⟩
theorem lc_O_skyCount : LkC M_O_skyCount 0 := ⟨⟨List.mem_of_getElem? (i := 1315) (by decide +kernel), rfl⟩, ⟨List.mem_of_getElem? (i := 126) (by decide +kernel), rfl⟩, by decide +kernel, by decide +kernel, rfl⟩
theorem lc_O_slip : LkC M_O_slip 2 := ⟨⟨List.mem_of_getElem? (i := 1237) (by decide +kernel), rfl⟩, ⟨List.mem_of_getElem? (i := 126) (by decide +kernel), rfl⟩, by decide +kernel, by decide +kernel, rfl⟩
theorem lc_P_addImage : LkC M_P_addImage 1 := ⟨⟨List.mem_of_getElem? (i := 1295) (by decide +kernel), rfl⟩, ⟨List.mem_of_getElem? (i := 128) (by decide +kernel), rfl⟩, by decide +kernel, by decide +kernel, rfl⟩
theorem lc_P_forget : LkC M_P_forget 0 := ⟨⟨List.mem_of_getElem? (i := 778) (by decide +kernel), rfl⟩, ⟨List.mem_of_getElem? (i := 128) (by decide +kernel), rfl⟩, by decide +kernel, by decide +kernel, rfl⟩
theorem lc_P_init : LkC M_P_init 0 := ⟨⟨List.mem_of_getElem? (i := 359) (by decide +kernel), rfl⟩, ⟨List.mem_of_getElem? (i := 128) (by decide +kernel), rfl⟩, by decide +kernel, by decide +kernel, rfl⟩
theorem lc_P_keep : LkC M_P_keep 1 := ⟨⟨List.mem_of_getElem? (i := 1255) (by decide +kernel), rfl⟩, ⟨List.mem_of_getElem? (i := 128) (by decide +kernel), rfl⟩, by decide +kernel, by decide +kernel, rfl⟩
theorem lc_P_takeImage : LkC M_P_takeImage 2 := ⟨⟨List.mem_of_getElem? (i := 1303) (by decide +kernel), rfl⟩, ⟨List.mem_of_getElem? (i := 128) (by decide +kernel), rfl⟩, by decide +kernel, by decide +kernel, rfl⟩
theorem lc_P_takeLatest : LkC M_P_takeLatest 1 := ⟨⟨List.mem_of_getElem? (i := 1287) (by decide +kernel), rfl⟩, ⟨List.mem_of_getElem? (i := 128) (by decide +kernel), rfl⟩, by decide +kernel, by decide +kernel, rfl⟩
theorem lc_Pre_checkIndex : LkC M_Pre_checkIndex 3 := ⟨⟨List.mem_of_getElem? (i := 1693) (by decide +kernel), rfl⟩, ⟨List.mem_of_getElem? (i := 141) (by decide +kernel), rfl⟩, by decide +kernel, by decide +kernel, rfl⟩
theorem lc_R_fail : LkC M_R_fail 2 := ⟨⟨List.mem_of_getElem? (i := 668) (by decide +kernel), rfl⟩, ⟨List.mem_of_getElem? (i := 125) (by decide +kernel), rfl⟩, by decide +kernel, by decide +kernel, rfl⟩
theorem lc_R_findName : LkC M_R_findName 0 := ⟨⟨List.mem_of_getElem? (i := 698) (by decide +kernel), rfl⟩, ⟨List.mem_of_getElem? (i := 125) (by decide +kernel), rfl⟩, by decide +kernel, by decide +kernel, rfl⟩
theorem lc_R_init : LkC M_R_init 0 := ⟨⟨List.mem_of_getElem? (i := 160) (by decide +kernel), rfl⟩, ⟨List.mem_of_getElem? (i := 125) (by decide +kernel), rfl⟩, by decide +kernel, by decide +kernel, rfl⟩
theorem lc_R_is : LkC M_R_is 1 := ⟨⟨List.mem_of_getElem? (i := 672) (by decide +kernel), rfl⟩, ⟨List.mem_of_getElem? (i := 125) (by decide +kernel), rfl⟩, by decide +kernel, by decide +kernel, rfl⟩
theorem lc_R_isLineWord : LkC M_R_isLineWord 0 := ⟨⟨List.mem_of_getElem? (i := 655) (by decide +kernel), rfl⟩, ⟨List.mem_of_getElem? (i := 125) (by decide +kernel), rfl⟩, by decide +kernel, by decide +kernel, rfl⟩
theorem lc_R_pass : LkC M_R_pass 1 := ⟨⟨List.mem_of_getElem? (i := 680) (by decide +kernel), rfl⟩, ⟨List.mem_of_getElem? (i := 125) (by decide +kernel), rfl⟩, by decide +kernel, by decide +kernel, rfl⟩
theorem lc_R_read : LkC M_R_read 3 := ⟨⟨List.mem_of_getElem? (i := 625) (by decide +kernel), rfl⟩, ⟨List.mem_of_getElem? (i := 125) (by decide +kernel), rfl⟩, by decide +kernel, by decide +kernel, rfl⟩
theorem lc_R_readBrass : LkC M_R_readBrass 0 := ⟨⟨List.mem_of_getElem? (i := 676) (by decide +kernel), rfl⟩, ⟨List.mem_of_getElem? (i := 125) (by decide +kernel), rfl⟩, by decide +kernel, by decide +kernel, rfl⟩
theorem lc_R_readFeast : LkC M_R_readFeast 0 := ⟨⟨List.mem_of_getElem? (i := 733) (by decide +kernel), rfl⟩, ⟨List.mem_of_getElem? (i := 125) (by decide +kernel), rfl⟩, by decide +kernel, by decide +kernel, rfl⟩
theorem lc_R_readFeastWheel : LkC M_R_readFeastWheel 0 := ⟨⟨List.mem_of_getElem? (i := 737) (by decide +kernel), rfl⟩, ⟨List.mem_of_getElem? (i := 125) (by decide +kernel), rfl⟩, by decide +kernel, by decide +kernel, rfl⟩
theorem lc_R_readGone : LkC M_R_readGone 0 := ⟨⟨List.mem_of_getElem? (i := 717) (by decide +kernel), rfl⟩, ⟨List.mem_of_getElem? (i := 125) (by decide +kernel), rfl⟩, by decide +kernel, by decide +kernel, rfl⟩
theorem lc_R_readKind : LkC M_R_readKind 0 := ⟨⟨List.mem_of_getElem? (i := 702) (by decide +kernel), rfl⟩, ⟨List.mem_of_getElem? (i := 125) (by decide +kernel), rfl⟩, by decide +kernel, by decide +kernel, rfl⟩
theorem lc_R_readLine : LkC M_R_readLine 0 := ⟨⟨List.mem_of_getElem? (i := 651) (by decide +kernel), rfl⟩, ⟨List.mem_of_getElem? (i := 125) (by decide +kernel), rfl⟩, by decide +kernel, by decide +kernel, rfl⟩
theorem lc_R_readName : LkC M_R_readName 1 := ⟨⟨List.mem_of_getElem? (i := 721) (by decide +kernel), rfl⟩, ⟨List.mem_of_getElem? (i := 125) (by decide +kernel), rfl⟩, by decide +kernel, by decide +kernel, rfl⟩
theorem lc_R_readSeen : LkC M_R_readSeen 1 := ⟨⟨List.mem_of_getElem? (i := 769) (by decide +kernel), rfl⟩, ⟨List.mem_of_getElem? (i := 125) (by decide +kernel), rfl⟩, by decide +kernel, by decide +kernel, rfl⟩
theorem lc_R_readSky : LkC M_R_readSky 0 := ⟨⟨List.mem_of_getElem? (i := 755) (by decide +kernel), rfl⟩, ⟨List.mem_of_getElem? (i := 125) (by decide +kernel), rfl⟩, by decide +kernel, by decide +kernel, rfl⟩
theorem lc_R_readSuspect : LkC M_R_readSuspect 0 := ⟨⟨List.mem_of_getElem? (i := 765) (by decide +kernel), rfl⟩, ⟨List.mem_of_getElem? (i := 125) (by decide +kernel), rfl⟩, by decide +kernel, by decide +kernel, rfl⟩
theorem lc_R_readWheel : LkC M_R_readWheel 0 := ⟨⟨List.mem_of_getElem? (i := 690) (by decide +kernel), rfl⟩, ⟨List.mem_of_getElem? (i := 125) (by decide +kernel), rfl⟩, by decide +kernel, by decide +kernel, rfl⟩
theorem lc_R_readWhole : LkC M_R_readWhole 2 := ⟨⟨List.mem_of_getElem? (i := 685) (by decide +kernel), rfl⟩, ⟨List.mem_of_getElem? (i := 125) (by decide +kernel), rfl⟩, by decide +kernel, by decide +kernel, rfl⟩
theorem lc_R_readWork : LkC M_R_readWork 0 := ⟨⟨List.mem_of_getElem? (i := 749) (by decide +kernel), rfl⟩, ⟨List.mem_of_getElem? (i := 125) (by decide +kernel), rfl⟩, by decide +kernel, by decide +kernel, rfl⟩
theorem lc_R_step : LkC M_R_step 0 := ⟨⟨List.mem_of_getElem? (i := 639) (by decide +kernel), rfl⟩, ⟨List.mem_of_getElem? (i := 125) (by decide +kernel), rfl⟩, by decide +kernel, by decide +kernel, rfl⟩
theorem lc_R_takeWhole : LkC M_R_takeWhole 0 := ⟨⟨List.mem_of_getElem? (i := 647) (by decide +kernel), rfl⟩, ⟨List.mem_of_getElem? (i := 125) (by decide +kernel), rfl⟩, by decide +kernel, by decide +kernel, rfl⟩
theorem lc_R_takeWord : LkC M_R_takeWord 0 := ⟨⟨List.mem_of_getElem? (i := 643) (by decide +kernel), rfl⟩, ⟨List.mem_of_getElem? (i := 125) (by decide +kernel), rfl⟩, by decide +kernel, by decide +kernel, rfl⟩
theorem lc_R_tellName : LkC M_R_tellName 2 := ⟨⟨List.mem_of_getElem? (i := 694) (by decide +kernel), rfl⟩, ⟨List.mem_of_getElem? (i := 125) (by decide +kernel), rfl⟩, by decide +kernel, by decide +kernel, rfl⟩
theorem lc_S_chooseDay : LkC M_S_chooseDay 0 := ⟨⟨List.mem_of_getElem? (i := 1121) (by decide +kernel), rfl⟩, ⟨List.mem_of_getElem? (i := 132) (by decide +kernel), rfl⟩, by decide +kernel, by decide +kernel, rfl⟩
theorem lc_S_firstAgainst : LkC M_S_firstAgainst 2 := ⟨⟨List.mem_of_getElem? (i := 1113) (by decide +kernel), rfl⟩, ⟨List.mem_of_getElem? (i := 132) (by decide +kernel), rfl⟩, by decide +kernel, by decide +kernel, rfl⟩
theorem lc_S_forget : LkC M_S_forget 0 := ⟨⟨List.mem_of_getElem? (i := 782) (by decide +kernel), rfl⟩, ⟨List.mem_of_getElem? (i := 132) (by decide +kernel), rfl⟩, by decide +kernel, by decide +kernel, rfl⟩
theorem lc_S_init : LkC M_S_init 0 := ⟨⟨List.mem_of_getElem? (i := 481) (by decide +kernel), rfl⟩, ⟨List.mem_of_getElem? (i := 132) (by decide +kernel), rfl⟩, by decide +kernel, by decide +kernel, rfl⟩
theorem lc_S_jerkedOn : LkC M_S_jerkedOn 2 := ⟨⟨List.mem_of_getElem? (i := 1117) (by decide +kernel), rfl⟩, ⟨List.mem_of_getElem? (i := 132) (by decide +kernel), rfl⟩, by decide +kernel, by decide +kernel, rfl⟩
theorem lc_S_recordJerk : LkC M_S_recordJerk 2 := ⟨⟨List.mem_of_getElem? (i := 1108) (by decide +kernel), rfl⟩, ⟨List.mem_of_getElem? (i := 132) (by decide +kernel), rfl⟩, by decide +kernel, by decide +kernel, rfl⟩
theorem lc_S_recordJerks : LkC M_S_recordJerks 2 := ⟨⟨List.mem_of_getElem? (i := 1097) (by decide +kernel), rfl⟩, ⟨List.mem_of_getElem? (i := 132) (by decide +kernel), rfl⟩, by decide +kernel, by decide +kernel, rfl⟩
theorem lc_S_weigh : LkC M_S_weigh 1 := ⟨⟨List.mem_of_getElem? (i := 1091) (by decide +kernel), rfl⟩, ⟨List.mem_of_getElem? (i := 132) (by decide +kernel), rfl⟩, by decide +kernel, by decide +kernel, rfl⟩
theorem lc_Str_charAt : LkC M_Str_charAt 1 := ⟨⟨List.mem_of_getElem? (i := 1678) (by decide +kernel), rfl⟩, ⟨List.mem_of_getElem? (i := 139) (by decide +kernel), rfl⟩, by decide +kernel, by decide +kernel, rfl⟩
theorem lc_Str_checkIndex : LkC M_Str_checkIndex 2 := ⟨⟨List.mem_of_getElem? (i := 1688) (by decide +kernel), rfl⟩, ⟨List.mem_of_getElem? (i := 139) (by decide +kernel), rfl⟩, by decide +kernel, by decide +kernel, rfl⟩
theorem lc_Str_coder : LkC M_Str_coder 0 := ⟨⟨List.mem_of_getElem? (i := 1672) (by decide +kernel), rfl⟩, ⟨List.mem_of_getElem? (i := 139) (by decide +kernel), rfl⟩, by decide +kernel, by decide +kernel, rfl⟩
theorem lc_Str_isLatin1 : LkC M_Str_isLatin1 0 := ⟨⟨List.mem_of_getElem? (i := 1682) (by decide +kernel), rfl⟩, ⟨List.mem_of_getElem? (i := 139) (by decide +kernel), rfl⟩, by decide +kernel, by decide +kernel, rfl⟩
theorem lc_Str_length : LkC M_Str_length 0 := ⟨⟨List.mem_of_getElem? (i := 1668) (by decide +kernel), rfl⟩, ⟨List.mem_of_getElem? (i := 139) (by decide +kernel), rfl⟩, by decide +kernel, by decide +kernel, rfl⟩
theorem lc_U_dayFrom : LkC M_U_dayFrom 2 := ⟨⟨List.mem_of_getElem? (i := 940) (by decide +kernel), rfl⟩, ⟨List.mem_of_getElem? (i := 130) (by decide +kernel), rfl⟩, by decide +kernel, by decide +kernel, rfl⟩
theorem lc_U_dayOfGoing : LkC M_U_dayOfGoing 1 := ⟨⟨List.mem_of_getElem? (i := 944) (by decide +kernel), rfl⟩, ⟨List.mem_of_getElem? (i := 130) (by decide +kernel), rfl⟩, by decide +kernel, by decide +kernel, rfl⟩
theorem lc_U_daysRound : LkC M_U_daysRound 0 := ⟨⟨List.mem_of_getElem? (i := 898) (by decide +kernel), rfl⟩, ⟨List.mem_of_getElem? (i := 130) (by decide +kernel), rfl⟩, by decide +kernel, by decide +kernel, rfl⟩
theorem lc_U_follow : LkC M_U_follow 4 := ⟨⟨List.mem_of_getElem? (i := 853) (by decide +kernel), rfl⟩, ⟨List.mem_of_getElem? (i := 130) (by decide +kernel), rfl⟩, by decide +kernel, by decide +kernel, rfl⟩
theorem lc_U_goingsUntil : LkC M_U_goingsUntil 1 := ⟨⟨List.mem_of_getElem? (i := 878) (by decide +kernel), rfl⟩, ⟨List.mem_of_getElem? (i := 130) (by decide +kernel), rfl⟩, by decide +kernel, by decide +kernel, rfl⟩
theorem lc_U_init : LkC M_U_init 0 := ⟨⟨List.mem_of_getElem? (i := 392) (by decide +kernel), rfl⟩, ⟨List.mem_of_getElem? (i := 130) (by decide +kernel), rfl⟩, by decide +kernel, by decide +kernel, rfl⟩
theorem lc_U_jerksUntil : LkC M_U_jerksUntil 1 := ⟨⟨List.mem_of_getElem? (i := 890) (by decide +kernel), rfl⟩, ⟨List.mem_of_getElem? (i := 130) (by decide +kernel), rfl⟩, by decide +kernel, by decide +kernel, rfl⟩
theorem lc_U_teethUntil : LkC M_U_teethUntil 1 := ⟨⟨List.mem_of_getElem? (i := 906) (by decide +kernel), rfl⟩, ⟨List.mem_of_getElem? (i := 130) (by decide +kernel), rfl⟩, by decide +kernel, by decide +kernel, rfl⟩
theorem lc_U_toothOn : LkC M_U_toothOn 1 := ⟨⟨List.mem_of_getElem? (i := 874) (by decide +kernel), rfl⟩, ⟨List.mem_of_getElem? (i := 130) (by decide +kernel), rfl⟩, by decide +kernel, by decide +kernel, rfl⟩
theorem lc_W_goesOn : LkC M_W_goesOn 2 := ⟨⟨List.mem_of_getElem? (i := 1101) (by decide +kernel), rfl⟩, ⟨List.mem_of_getElem? (i := 127) (by decide +kernel), rfl⟩, by decide +kernel, by decide +kernel, rfl⟩
theorem lc_W_hasTooth : LkC M_W_hasTooth 1 := ⟨⟨List.mem_of_getElem? (i := 815) (by decide +kernel), rfl⟩, ⟨List.mem_of_getElem? (i := 127) (by decide +kernel), rfl⟩, by decide +kernel, by decide +kernel, rfl⟩
theorem lc_W_init : LkC M_W_init 0 := ⟨⟨List.mem_of_getElem? (i := 226) (by decide +kernel), rfl⟩, ⟨List.mem_of_getElem? (i := 127) (by decide +kernel), rfl⟩, by decide +kernel, by decide +kernel, rfl⟩
theorem lc_W_lacks : LkC M_W_lacks 1 := ⟨⟨List.mem_of_getElem? (i := 725) (by decide +kernel), rfl⟩, ⟨List.mem_of_getElem? (i := 127) (by decide +kernel), rfl⟩, by decide +kernel, by decide +kernel, rfl⟩
theorem lc_W_landing : LkC M_W_landing 3 := ⟨⟨List.mem_of_getElem? (i := 862) (by decide +kernel), rfl⟩, ⟨List.mem_of_getElem? (i := 127) (by decide +kernel), rfl⟩, by decide +kernel, by decide +kernel, rfl⟩
theorem lc_W_loseTooth : LkC M_W_loseTooth 1 := ⟨⟨List.mem_of_getElem? (i := 729) (by decide +kernel), rfl⟩, ⟨List.mem_of_getElem? (i := 127) (by decide +kernel), rfl⟩, by decide +kernel, by decide +kernel, rfl⟩
theorem lc_W_resting : LkC M_W_resting 2 := ⟨⟨List.mem_of_getElem? (i := 867) (by decide +kernel), rfl⟩, ⟨List.mem_of_getElem? (i := 127) (by decide +kernel), rfl⟩, by decide +kernel, by decide +kernel, rfl⟩
theorem lc_W_tell : LkC M_W_tell 4 := ⟨⟨List.mem_of_getElem? (i := 713) (by decide +kernel), rfl⟩, ⟨List.mem_of_getElem? (i := 127) (by decide +kernel), rfl⟩, by decide +kernel, by decide +kernel, rfl⟩
theorem lc_W_tellLike : LkC M_W_tellLike 1 := ⟨⟨List.mem_of_getElem? (i := 1021) (by decide +kernel), rfl⟩, ⟨List.mem_of_getElem? (i := 127) (by decide +kernel), rfl⟩, by decide +kernel, by decide +kernel, rfl⟩
theorem lc_W_way : LkC M_W_way 0 := ⟨⟨List.mem_of_getElem? (i := 858) (by decide +kernel), rfl⟩, ⟨List.mem_of_getElem? (i := 127) (by decide +kernel), rfl⟩, by decide +kernel, by decide +kernel, rfl⟩
theorem lc_m_aTurn : LkC M_m_aTurn 0 := ⟨⟨List.mem_of_getElem? (i := 1942) (by decide +kernel), rfl⟩, ⟨List.mem_of_getElem? (i := 135) (by decide +kernel), rfl⟩, by decide +kernel, by decide +kernel, rfl⟩
theorem lc_m_aTurnBack : LkC M_m_aTurnBack 0 := ⟨⟨List.mem_of_getElem? (i := 2094) (by decide +kernel), rfl⟩, ⟨List.mem_of_getElem? (i := 135) (by decide +kernel), rfl⟩, by decide +kernel, by decide +kernel, rfl⟩
theorem lc_m_agree : LkC M_m_agree 1 := ⟨⟨List.mem_of_getElem? (i := 2026) (by decide +kernel), rfl⟩, ⟨List.mem_of_getElem? (i := 135) (by decide +kernel), rfl⟩, by decide +kernel, by decide +kernel, rfl⟩
theorem lc_m_argues : LkC M_m_argues 2 := ⟨⟨List.mem_of_getElem? (i := 2086) (by decide +kernel), rfl⟩, ⟨List.mem_of_getElem? (i := 135) (by decide +kernel), rfl⟩, by decide +kernel, by decide +kernel, rfl⟩
theorem lc_m_back : LkC M_m_back 1 := ⟨⟨List.mem_of_getElem? (i := 2202) (by decide +kernel), rfl⟩, ⟨List.mem_of_getElem? (i := 135) (by decide +kernel), rfl⟩, by decide +kernel, by decide +kernel, rfl⟩
theorem lc_m_becomes : LkC M_m_becomes 1 := ⟨⟨List.mem_of_getElem? (i := 2170) (by decide +kernel), rfl⟩, ⟨List.mem_of_getElem? (i := 135) (by decide +kernel), rfl⟩, by decide +kernel, by decide +kernel, rfl⟩
theorem lc_m_bestOf : LkC M_m_bestOf 2 := ⟨⟨List.mem_of_getElem? (i := 2098) (by decide +kernel), rfl⟩, ⟨List.mem_of_getElem? (i := 135) (by decide +kernel), rfl⟩, by decide +kernel, by decide +kernel, rfl⟩
theorem lc_m_bit : LkC M_m_bit 2 := ⟨⟨List.mem_of_getElem? (i := 1804) (by decide +kernel), rfl⟩, ⟨List.mem_of_getElem? (i := 135) (by decide +kernel), rfl⟩, by decide +kernel, by decide +kernel, rfl⟩
theorem lc_m_byFor : LkC M_m_byFor 2 := ⟨⟨List.mem_of_getElem? (i := 1978) (by decide +kernel), rfl⟩, ⟨List.mem_of_getElem? (i := 135) (by decide +kernel), rfl⟩, by decide +kernel, by decide +kernel, rfl⟩
theorem lc_m_byIn : LkC M_m_byIn 2 := ⟨⟨List.mem_of_getElem? (i := 1986) (by decide +kernel), rfl⟩, ⟨List.mem_of_getElem? (i := 135) (by decide +kernel), rfl⟩, by decide +kernel, by decide +kernel, rfl⟩
theorem lc_m_byteAt : LkC M_m_byteAt 1 := ⟨⟨List.mem_of_getElem? (i := 1641) (by decide +kernel), rfl⟩, ⟨List.mem_of_getElem? (i := 135) (by decide +kernel), rfl⟩, by decide +kernel, by decide +kernel, rfl⟩
theorem lc_m_comesRound : LkC M_m_comesRound 1 := ⟨⟨List.mem_of_getElem? (i := 1922) (by decide +kernel), rfl⟩, ⟨List.mem_of_getElem? (i := 135) (by decide +kernel), rfl⟩, by decide +kernel, by decide +kernel, rfl⟩
theorem lc_m_common : LkC M_m_common 2 := ⟨⟨List.mem_of_getElem? (i := 2129) (by decide +kernel), rfl⟩, ⟨List.mem_of_getElem? (i := 135) (by decide +kernel), rfl⟩, by decide +kernel, by decide +kernel, rfl⟩
theorem lc_m_denied : LkC M_m_denied 1 := ⟨⟨List.mem_of_getElem? (i := 2186) (by decide +kernel), rfl⟩, ⟨List.mem_of_getElem? (i := 135) (by decide +kernel), rfl⟩, by decide +kernel, by decide +kernel, rfl⟩
theorem lc_m_drift : LkC M_m_drift 1 := ⟨⟨List.mem_of_getElem? (i := 2038) (by decide +kernel), rfl⟩, ⟨List.mem_of_getElem? (i := 135) (by decide +kernel), rfl⟩, by decide +kernel, by decide +kernel, rfl⟩
theorem lc_m_eats : LkC M_m_eats 1 := ⟨⟨List.mem_of_getElem? (i := 1808) (by decide +kernel), rfl⟩, ⟨List.mem_of_getElem? (i := 135) (by decide +kernel), rfl⟩, by decide +kernel, by decide +kernel, rfl⟩
theorem lc_m_fault : LkC M_m_fault 0 := ⟨⟨List.mem_of_getElem? (i := 1845) (by decide +kernel), rfl⟩, ⟨List.mem_of_getElem? (i := 135) (by decide +kernel), rfl⟩, by decide +kernel, by decide +kernel, rfl⟩
theorem lc_m_feastsBy : LkC M_m_feastsBy 2 := ⟨⟨List.mem_of_getElem? (i := 2090) (by decide +kernel), rfl⟩, ⟨List.mem_of_getElem? (i := 135) (by decide +kernel), rfl⟩, by decide +kernel, by decide +kernel, rfl⟩
theorem lc_m_feastsOf : LkC M_m_feastsOf 1 := ⟨⟨List.mem_of_getElem? (i := 1861) (by decide +kernel), rfl⟩, ⟨List.mem_of_getElem? (i := 135) (by decide +kernel), rfl⟩, by decide +kernel, by decide +kernel, rfl⟩
theorem lc_m_feed : LkC M_m_feed 5 := ⟨⟨List.mem_of_getElem? (i := 1516) (by decide +kernel), rfl⟩, ⟨List.mem_of_getElem? (i := 135) (by decide +kernel), rfl⟩, by decide +kernel, by decide +kernel, rfl⟩
theorem lc_m_fitAt : LkC M_m_fitAt 1 := ⟨⟨List.mem_of_getElem? (i := 2062) (by decide +kernel), rfl⟩, ⟨List.mem_of_getElem? (i := 135) (by decide +kernel), rfl⟩, by decide +kernel, by decide +kernel, rfl⟩
theorem lc_m_fits : LkC M_m_fits 0 := ⟨⟨List.mem_of_getElem? (i := 2042) (by decide +kernel), rfl⟩, ⟨List.mem_of_getElem? (i := 135) (by decide +kernel), rfl⟩, by decide +kernel, by decide +kernel, rfl⟩
theorem lc_m_fitting : LkC M_m_fitting 1 := ⟨⟨List.mem_of_getElem? (i := 2050) (by decide +kernel), rfl⟩, ⟨List.mem_of_getElem? (i := 135) (by decide +kernel), rfl⟩, by decide +kernel, by decide +kernel, rfl⟩
theorem lc_m_flaw : LkC M_m_flaw 1 := ⟨⟨List.mem_of_getElem? (i := 1720) (by decide +kernel), rfl⟩, ⟨List.mem_of_getElem? (i := 135) (by decide +kernel), rfl⟩, by decide +kernel, by decide +kernel, rfl⟩
theorem lc_m_fraction : LkC M_m_fraction 3 := ⟨⟨List.mem_of_getElem? (i := 2126) (by decide +kernel), rfl⟩, ⟨List.mem_of_getElem? (i := 135) (by decide +kernel), rfl⟩, by decide +kernel, by decide +kernel, rfl⟩
theorem lc_m_goes : LkC M_m_goes 4 := ⟨⟨List.mem_of_getElem? (i := 1914) (by decide +kernel), rfl⟩, ⟨List.mem_of_getElem? (i := 135) (by decide +kernel), rfl⟩, by decide +kernel, by decide +kernel, rfl⟩
theorem lc_m_goesOn : LkC M_m_goesOn 0 := ⟨⟨List.mem_of_getElem? (i := 1637) (by decide +kernel), rfl⟩, ⟨List.mem_of_getElem? (i := 135) (by decide +kernel), rfl⟩, by decide +kernel, by decide +kernel, rfl⟩
theorem lc_m_goesOnce : LkC M_m_goesOnce 2 := ⟨⟨List.mem_of_getElem? (i := 1906) (by decide +kernel), rfl⟩, ⟨List.mem_of_getElem? (i := 135) (by decide +kernel), rfl⟩, by decide +kernel, by decide +kernel, rfl⟩
theorem lc_m_goings : LkC M_m_goings 2 := ⟨⟨List.mem_of_getElem? (i := 1898) (by decide +kernel), rfl⟩, ⟨List.mem_of_getElem? (i := 135) (by decide +kernel), rfl⟩, by decide +kernel, by decide +kernel, rfl⟩
theorem lc_m_good : LkC M_m_good 1 := ⟨⟨List.mem_of_getElem? (i := 1841) (by decide +kernel), rfl⟩, ⟨List.mem_of_getElem? (i := 135) (by decide +kernel), rfl⟩, by decide +kernel, by decide +kernel, rfl⟩
theorem lc_m_granted : LkC M_m_granted 0 := ⟨⟨List.mem_of_getElem? (i := 2190) (by decide +kernel), rfl⟩, ⟨List.mem_of_getElem? (i := 135) (by decide +kernel), rfl⟩, by decide +kernel, by decide +kernel, rfl⟩
theorem lc_m_idle : LkC M_m_idle 1 := ⟨⟨List.mem_of_getElem? (i := 1926) (by decide +kernel), rfl⟩, ⟨List.mem_of_getElem? (i := 135) (by decide +kernel), rfl⟩, by decide +kernel, by decide +kernel, rfl⟩
theorem lc_m_image : LkC M_m_image 0 := ⟨⟨List.mem_of_getElem? (i := 2198) (by decide +kernel), rfl⟩, ⟨List.mem_of_getElem? (i := 135) (by decide +kernel), rfl⟩, by decide +kernel, by decide +kernel, rfl⟩
theorem lc_m_in : LkC M_m_in 3 := ⟨⟨List.mem_of_getElem? (i := 1740) (by decide +kernel), rfl⟩, ⟨List.mem_of_getElem? (i := 135) (by decide +kernel), rfl⟩, by decide +kernel, by decide +kernel, rfl⟩
theorem lc_m_inTime : LkC M_m_inTime 0 := ⟨⟨List.mem_of_getElem? (i := 2022) (by decide +kernel), rfl⟩, ⟨List.mem_of_getElem? (i := 135) (by decide +kernel), rfl⟩, by decide +kernel, by decide +kernel, rfl⟩
theorem lc_m_init : LkC M_m_init 0 := ⟨⟨List.mem_of_getElem? (i := 1398) (by decide +kernel), rfl⟩, ⟨List.mem_of_getElem? (i := 135) (by decide +kernel), rfl⟩, by decide +kernel, by decide +kernel, rfl⟩
theorem lc_m_isDigit : LkC M_m_isDigit 1 := ⟨⟨List.mem_of_getElem? (i := 1648) (by decide +kernel), rfl⟩, ⟨List.mem_of_getElem? (i := 135) (by decide +kernel), rfl⟩, by decide +kernel, by decide +kernel, rfl⟩
theorem lc_m_isFeast : LkC M_m_isFeast 1 := ⟨⟨List.mem_of_getElem? (i := 1934) (by decide +kernel), rfl⟩, ⟨List.mem_of_getElem? (i := 135) (by decide +kernel), rfl⟩, by decide +kernel, by decide +kernel, rfl⟩
theorem lc_m_isGoing : LkC M_m_isGoing 3 := ⟨⟨List.mem_of_getElem? (i := 1946) (by decide +kernel), rfl⟩, ⟨List.mem_of_getElem? (i := 135) (by decide +kernel), rfl⟩, by decide +kernel, by decide +kernel, rfl⟩
theorem lc_m_isGone : LkC M_m_isGone 2 := ⟨⟨List.mem_of_getElem? (i := 1865) (by decide +kernel), rfl⟩, ⟨List.mem_of_getElem? (i := 135) (by decide +kernel), rfl⟩, by decide +kernel, by decide +kernel, rfl⟩
theorem lc_m_isLetter : LkC M_m_isLetter 1 := ⟨⟨List.mem_of_getElem? (i := 1644) (by decide +kernel), rfl⟩, ⟨List.mem_of_getElem? (i := 135) (by decide +kernel), rfl⟩, by decide +kernel, by decide +kernel, rfl⟩
theorem lc_m_isName : LkC M_m_isName 0 := ⟨⟨List.mem_of_getElem? (i := 1758) (by decide +kernel), rfl⟩, ⟨List.mem_of_getElem? (i := 135) (by decide +kernel), rfl⟩, by decide +kernel, by decide +kernel, rfl⟩
theorem lc_m_isOf : LkC M_m_isOf 2 := ⟨⟨List.mem_of_getElem? (i := 1970) (by decide +kernel), rfl⟩, ⟨List.mem_of_getElem? (i := 135) (by decide +kernel), rfl⟩, by decide +kernel, by decide +kernel, rfl⟩
theorem lc_m_isOn : LkC M_m_isOn 1 := ⟨⟨List.mem_of_getElem? (i := 1881) (by decide +kernel), rfl⟩, ⟨List.mem_of_getElem? (i := 135) (by decide +kernel), rfl⟩, by decide +kernel, by decide +kernel, rfl⟩
theorem lc_m_isWheel : LkC M_m_isWheel 1 := ⟨⟨List.mem_of_getElem? (i := 1857) (by decide +kernel), rfl⟩, ⟨List.mem_of_getElem? (i := 135) (by decide +kernel), rfl⟩, by decide +kernel, by decide +kernel, rfl⟩
theorem lc_m_isWord : LkC M_m_isWord 1 := ⟨⟨List.mem_of_getElem? (i := 1661) (by decide +kernel), rfl⟩, ⟨List.mem_of_getElem? (i := 135) (by decide +kernel), rfl⟩, by decide +kernel, by decide +kernel, rfl⟩
theorem lc_m_jerkMean : LkC M_m_jerkMean 3 := ⟨⟨List.mem_of_getElem? (i := 2133) (by decide +kernel), rfl⟩, ⟨List.mem_of_getElem? (i := 135) (by decide +kernel), rfl⟩, by decide +kernel, by decide +kernel, rfl⟩
theorem lc_m_jerks : LkC M_m_jerks 2 := ⟨⟨List.mem_of_getElem? (i := 1918) (by decide +kernel), rfl⟩, ⟨List.mem_of_getElem? (i := 135) (by decide +kernel), rfl⟩, by decide +kernel, by decide +kernel, rfl⟩
theorem lc_m_judge : LkC M_m_judge 1 := ⟨⟨List.mem_of_getElem? (i := 2078) (by decide +kernel), rfl⟩, ⟨List.mem_of_getElem? (i := 135) (by decide +kernel), rfl⟩, by decide +kernel, by decide +kernel, rfl⟩
theorem lc_m_knownOne : LkC M_m_knownOne 1 := ⟨⟨List.mem_of_getElem? (i := 1788) (by decide +kernel), rfl⟩, ⟨List.mem_of_getElem? (i := 135) (by decide +kernel), rfl⟩, by decide +kernel, by decide +kernel, rfl⟩
theorem lc_m_leadsTo : LkC M_m_leadsTo 4 := ⟨⟨List.mem_of_getElem? (i := 1974) (by decide +kernel), rfl⟩, ⟨List.mem_of_getElem? (i := 135) (by decide +kernel), rfl⟩, by decide +kernel, by decide +kernel, rfl⟩
theorem lc_m_led : LkC M_m_led 1 := ⟨⟨List.mem_of_getElem? (i := 2206) (by decide +kernel), rfl⟩, ⟨List.mem_of_getElem? (i := 135) (by decide +kernel), rfl⟩, by decide +kernel, by decide +kernel, rfl⟩
theorem lc_m_likely : LkC M_m_likely 4 := ⟨⟨List.mem_of_getElem? (i := 2106) (by decide +kernel), rfl⟩, ⟨List.mem_of_getElem? (i := 135) (by decide +kernel), rfl⟩, by decide +kernel, by decide +kernel, rfl⟩
theorem lc_m_lineAt : LkC M_m_lineAt 1 := ⟨⟨List.mem_of_getElem? (i := 2018) (by decide +kernel), rfl⟩, ⟨List.mem_of_getElem? (i := 135) (by decide +kernel), rfl⟩, by decide +kernel, by decide +kernel, rfl⟩
theorem lc_m_lineBegins : LkC M_m_lineBegins 2 := ⟨⟨List.mem_of_getElem? (i := 1750) (by decide +kernel), rfl⟩, ⟨List.mem_of_getElem? (i := 135) (by decide +kernel), rfl⟩, by decide +kernel, by decide +kernel, rfl⟩
theorem lc_m_lineWorth : LkC M_m_lineWorth 0 := ⟨⟨List.mem_of_getElem? (i := 1994) (by decide +kernel), rfl⟩, ⟨List.mem_of_getElem? (i := 135) (by decide +kernel), rfl⟩, by decide +kernel, by decide +kernel, rfl⟩
theorem lc_m_lines : LkC M_m_lines 0 := ⟨⟨List.mem_of_getElem? (i := 1998) (by decide +kernel), rfl⟩, ⟨List.mem_of_getElem? (i := 135) (by decide +kernel), rfl⟩, by decide +kernel, by decide +kernel, rfl⟩
theorem lc_m_longestGap : LkC M_m_longestGap 1 := ⟨⟨List.mem_of_getElem? (i := 1962) (by decide +kernel), rfl⟩, ⟨List.mem_of_getElem? (i := 135) (by decide +kernel), rfl⟩, by decide +kernel, by decide +kernel, rfl⟩
theorem lc_m_look : LkC M_m_look 0 := ⟨⟨List.mem_of_getElem? (i := 2066) (by decide +kernel), rfl⟩, ⟨List.mem_of_getElem? (i := 135) (by decide +kernel), rfl⟩, by decide +kernel, by decide +kernel, rfl⟩
theorem lc_m_lookLeaves : LkC M_m_lookLeaves 0 := ⟨⟨List.mem_of_getElem? (i := 2074) (by decide +kernel), rfl⟩, ⟨List.mem_of_getElem? (i := 135) (by decide +kernel), rfl⟩, by decide +kernel, by decide +kernel, rfl⟩
theorem lc_m_looks : LkC M_m_looks 0 := ⟨⟨List.mem_of_getElem? (i := 2070) (by decide +kernel), rfl⟩, ⟨List.mem_of_getElem? (i := 135) (by decide +kernel), rfl⟩, by decide +kernel, by decide +kernel, rfl⟩
theorem lc_m_meet : LkC M_m_meet 2 := ⟨⟨List.mem_of_getElem? (i := 1954) (by decide +kernel), rfl⟩, ⟨List.mem_of_getElem? (i := 135) (by decide +kernel), rfl⟩, by decide +kernel, by decide +kernel, rfl⟩
theorem lc_m_moves : LkC M_m_moves 2 := ⟨⟨List.mem_of_getElem? (i := 2102) (by decide +kernel), rfl⟩, ⟨List.mem_of_getElem? (i := 135) (by decide +kernel), rfl⟩, by decide +kernel, by decide +kernel, rfl⟩
theorem lc_m_names : LkC M_m_names 3 := ⟨⟨List.mem_of_getElem? (i := 1780) (by decide +kernel), rfl⟩, ⟨List.mem_of_getElem? (i := 135) (by decide +kernel), rfl⟩, by decide +kernel, by decide +kernel, rfl⟩
theorem lc_m_needs : LkC M_m_needs 1 := ⟨⟨List.mem_of_getElem? (i := 1729) (by decide +kernel), rfl⟩, ⟨List.mem_of_getElem? (i := 135) (by decide +kernel), rfl⟩, by decide +kernel, by decide +kernel, rfl⟩
theorem lc_m_next : LkC M_m_next 1 := ⟨⟨List.mem_of_getElem? (i := 1930) (by decide +kernel), rfl⟩, ⟨List.mem_of_getElem? (i := 135) (by decide +kernel), rfl⟩, by decide +kernel, by decide +kernel, rfl⟩
theorem lc_m_nextOf : LkC M_m_nextOf 2 := ⟨⟨List.mem_of_getElem? (i := 1938) (by decide +kernel), rfl⟩, ⟨List.mem_of_getElem? (i := 135) (by decide +kernel), rfl⟩, by decide +kernel, by decide +kernel, rfl⟩
theorem lc_m_nextOrder : LkC M_m_nextOrder 0 := ⟨⟨List.mem_of_getElem? (i := 2010) (by decide +kernel), rfl⟩, ⟨List.mem_of_getElem? (i := 135) (by decide +kernel), rfl⟩, by decide +kernel, by decide +kernel, rfl⟩
theorem lc_m_now : LkC M_m_now 1 := ⟨⟨List.mem_of_getElem? (i := 1869) (by decide +kernel), rfl⟩, ⟨List.mem_of_getElem? (i := 135) (by decide +kernel), rfl⟩, by decide +kernel, by decide +kernel, rfl⟩
theorem lc_m_off : LkC M_m_off 2 := ⟨⟨List.mem_of_getElem? (i := 2034) (by decide +kernel), rfl⟩, ⟨List.mem_of_getElem? (i := 135) (by decide +kernel), rfl⟩, by decide +kernel, by decide +kernel, rfl⟩
theorem lc_m_often : LkC M_m_often 2 := ⟨⟨List.mem_of_getElem? (i := 1950) (by decide +kernel), rfl⟩, ⟨List.mem_of_getElem? (i := 135) (by decide +kernel), rfl⟩, by decide +kernel, by decide +kernel, rfl⟩
theorem lc_m_oil : LkC M_m_oil 1 := ⟨⟨List.mem_of_getElem? (i := 2178) (by decide +kernel), rfl⟩, ⟨List.mem_of_getElem? (i := 135) (by decide +kernel), rfl⟩, by decide +kernel, by decide +kernel, rfl⟩
theorem lc_m_onNow : LkC M_m_onNow 0 := ⟨⟨List.mem_of_getElem? (i := 1873) (by decide +kernel), rfl⟩, ⟨List.mem_of_getElem? (i := 135) (by decide +kernel), rfl⟩, by decide +kernel, by decide +kernel, rfl⟩
theorem lc_m_orrery : LkC M_m_orrery 1 := ⟨⟨List.mem_of_getElem? (i := 1520) (by decide +kernel), rfl⟩, ⟨List.mem_of_getElem? (i := 135) (by decide +kernel), rfl⟩, by decide +kernel, by decide +kernel, rfl⟩
theorem lc_m_paces : LkC M_m_paces 2 := ⟨⟨List.mem_of_getElem? (i := 1982) (by decide +kernel), rfl⟩, ⟨List.mem_of_getElem? (i := 135) (by decide +kernel), rfl⟩, by decide +kernel, by decide +kernel, rfl⟩
theorem lc_m_packed : LkC M_m_packed 1 := ⟨⟨List.mem_of_getElem? (i := 1664) (by decide +kernel), rfl⟩, ⟨List.mem_of_getElem? (i := 135) (by decide +kernel), rfl⟩, by decide +kernel, by decide +kernel, rfl⟩
theorem lc_m_part : LkC M_m_part 2 := ⟨⟨List.mem_of_getElem? (i := 2118) (by decide +kernel), rfl⟩, ⟨List.mem_of_getElem? (i := 135) (by decide +kernel), rfl⟩, by decide +kernel, by decide +kernel, rfl⟩
theorem lc_m_readAll : LkC M_m_readAll 0 := ⟨⟨List.mem_of_getElem? (i := 1652) (by decide +kernel), rfl⟩, ⟨List.mem_of_getElem? (i := 135) (by decide +kernel), rfl⟩, by decide +kernel, by decide +kernel, rfl⟩
theorem lc_m_readBrass : LkC M_m_readBrass 0 := ⟨⟨List.mem_of_getElem? (i := 1716) (by decide +kernel), rfl⟩, ⟨List.mem_of_getElem? (i := 135) (by decide +kernel), rfl⟩, by decide +kernel, by decide +kernel, rfl⟩
theorem lc_m_readFeast : LkC M_m_readFeast 0 := ⟨⟨List.mem_of_getElem? (i := 1801) (by decide +kernel), rfl⟩, ⟨List.mem_of_getElem? (i := 135) (by decide +kernel), rfl⟩, by decide +kernel, by decide +kernel, rfl⟩
theorem lc_m_readFresh : LkC M_m_readFresh 0 := ⟨⟨List.mem_of_getElem? (i := 1754) (by decide +kernel), rfl⟩, ⟨List.mem_of_getElem? (i := 135) (by decide +kernel), rfl⟩, by decide +kernel, by decide +kernel, rfl⟩
theorem lc_m_readGone : LkC M_m_readGone 0 := ⟨⟨List.mem_of_getElem? (i := 1784) (by decide +kernel), rfl⟩, ⟨List.mem_of_getElem? (i := 135) (by decide +kernel), rfl⟩, by decide +kernel, by decide +kernel, rfl⟩
theorem lc_m_readKnown : LkC M_m_readKnown 1 := ⟨⟨List.mem_of_getElem? (i := 1818) (by decide +kernel), rfl⟩, ⟨List.mem_of_getElem? (i := 135) (by decide +kernel), rfl⟩, by decide +kernel, by decide +kernel, rfl⟩
theorem lc_m_readLine : LkC M_m_readLine 0 := ⟨⟨List.mem_of_getElem? (i := 1656) (by decide +kernel), rfl⟩, ⟨List.mem_of_getElem? (i := 135) (by decide +kernel), rfl⟩, by decide +kernel, by decide +kernel, rfl⟩
theorem lc_m_readPart : LkC M_m_readPart 3 := ⟨⟨List.mem_of_getElem? (i := 1725) (by decide +kernel), rfl⟩, ⟨List.mem_of_getElem? (i := 135) (by decide +kernel), rfl⟩, by decide +kernel, by decide +kernel, rfl⟩
theorem lc_m_readSeen : LkC M_m_readSeen 1 := ⟨⟨List.mem_of_getElem? (i := 1832) (by decide +kernel), rfl⟩, ⟨List.mem_of_getElem? (i := 135) (by decide +kernel), rfl⟩, by decide +kernel, by decide +kernel, rfl⟩
theorem lc_m_readSky : LkC M_m_readSky 0 := ⟨⟨List.mem_of_getElem? (i := 1822) (by decide +kernel), rfl⟩, ⟨List.mem_of_getElem? (i := 135) (by decide +kernel), rfl⟩, by decide +kernel, by decide +kernel, rfl⟩
theorem lc_m_readSuspect : LkC M_m_readSuspect 0 := ⟨⟨List.mem_of_getElem? (i := 1828) (by decide +kernel), rfl⟩, ⟨List.mem_of_getElem? (i := 135) (by decide +kernel), rfl⟩, by decide +kernel, by decide +kernel, rfl⟩
theorem lc_m_readWheel : LkC M_m_readWheel 0 := ⟨⟨List.mem_of_getElem? (i := 1746) (by decide +kernel), rfl⟩, ⟨List.mem_of_getElem? (i := 135) (by decide +kernel), rfl⟩, by decide +kernel, by decide +kernel, rfl⟩
theorem lc_m_readWhole : LkC M_m_readWhole 2 := ⟨⟨List.mem_of_getElem? (i := 1733) (by decide +kernel), rfl⟩, ⟨List.mem_of_getElem? (i := 135) (by decide +kernel), rfl⟩, by decide +kernel, by decide +kernel, rfl⟩
theorem lc_m_readWork : LkC M_m_readWork 0 := ⟨⟨List.mem_of_getElem? (i := 1812) (by decide +kernel), rfl⟩, ⟨List.mem_of_getElem? (i := 135) (by decide +kernel), rfl⟩, by decide +kernel, by decide +kernel, rfl⟩
theorem lc_m_refused : LkC M_m_refused 1 := ⟨⟨List.mem_of_getElem? (i := 1524) (by decide +kernel), rfl⟩, ⟨List.mem_of_getElem? (i := 135) (by decide +kernel), rfl⟩, by decide +kernel, by decide +kernel, rfl⟩
theorem lc_m_refusesDays : LkC M_m_refusesDays 4 := ⟨⟨List.mem_of_getElem? (i := 1894) (by decide +kernel), rfl⟩, ⟨List.mem_of_getElem? (i := 135) (by decide +kernel), rfl⟩, by decide +kernel, by decide +kernel, rfl⟩
theorem lc_m_refusesSeed : LkC M_m_refusesSeed 3 := ⟨⟨List.mem_of_getElem? (i := 2141) (by decide +kernel), rfl⟩, ⟨List.mem_of_getElem? (i := 135) (by decide +kernel), rfl⟩, by decide +kernel, by decide +kernel, rfl⟩
theorem lc_m_refusesSky : LkC M_m_refusesSky 1 := ⟨⟨List.mem_of_getElem? (i := 2030) (by decide +kernel), rfl⟩, ⟨List.mem_of_getElem? (i := 135) (by decide +kernel), rfl⟩, by decide +kernel, by decide +kernel, rfl⟩
theorem lc_m_refusesSuspect : LkC M_m_refusesSuspect 0 := ⟨⟨List.mem_of_getElem? (i := 2046) (by decide +kernel), rfl⟩, ⟨List.mem_of_getElem? (i := 135) (by decide +kernel), rfl⟩, by decide +kernel, by decide +kernel, rfl⟩
theorem lc_m_remembers : LkC M_m_remembers 0 := ⟨⟨List.mem_of_getElem? (i := 2166) (by decide +kernel), rfl⟩, ⟨List.mem_of_getElem? (i := 135) (by decide +kernel), rfl⟩, by decide +kernel, by decide +kernel, rfl⟩
theorem lc_m_replays : LkC M_m_replays 1 := ⟨⟨List.mem_of_getElem? (i := 2058) (by decide +kernel), rfl⟩, ⟨List.mem_of_getElem? (i := 135) (by decide +kernel), rfl⟩, by decide +kernel, by decide +kernel, rfl⟩
theorem lc_m_set : LkC M_m_set 2 := ⟨⟨List.mem_of_getElem? (i := 2182) (by decide +kernel), rfl⟩, ⟨List.mem_of_getElem? (i := 135) (by decide +kernel), rfl⟩, by decide +kernel, by decide +kernel, rfl⟩
theorem lc_m_setFor : LkC M_m_setFor 3 := ⟨⟨List.mem_of_getElem? (i := 1966) (by decide +kernel), rfl⟩, ⟨List.mem_of_getElem? (i := 135) (by decide +kernel), rfl⟩, by decide +kernel, by decide +kernel, rfl⟩
theorem lc_m_settings : LkC M_m_settings 2 := ⟨⟨List.mem_of_getElem? (i := 1990) (by decide +kernel), rfl⟩, ⟨List.mem_of_getElem? (i := 135) (by decide +kernel), rfl⟩, by decide +kernel, by decide +kernel, rfl⟩
theorem lc_m_size : LkC M_m_size 1 := ⟨⟨List.mem_of_getElem? (i := 2210) (by decide +kernel), rfl⟩, ⟨List.mem_of_getElem? (i := 135) (by decide +kernel), rfl⟩, by decide +kernel, by decide +kernel, rfl⟩
theorem lc_m_slips : LkC M_m_slips 2 := ⟨⟨List.mem_of_getElem? (i := 2157) (by decide +kernel), rfl⟩, ⟨List.mem_of_getElem? (i := 135) (by decide +kernel), rfl⟩, by decide +kernel, by decide +kernel, rfl⟩
theorem lc_m_slips1 : LkC M_m_slips1 1 := ⟨⟨List.mem_of_getElem? (i := 2114) (by decide +kernel), rfl⟩, ⟨List.mem_of_getElem? (i := 135) (by decide +kernel), rfl⟩, by decide +kernel, by decide +kernel, rfl⟩
theorem lc_m_slipsBy : LkC M_m_slipsBy 3 := ⟨⟨List.mem_of_getElem? (i := 2110) (by decide +kernel), rfl⟩, ⟨List.mem_of_getElem? (i := 135) (by decide +kernel), rfl⟩, by decide +kernel, by decide +kernel, rfl⟩
theorem lc_m_soonest : LkC M_m_soonest 0 := ⟨⟨List.mem_of_getElem? (i := 1958) (by decide +kernel), rfl⟩, ⟨List.mem_of_getElem? (i := 135) (by decide +kernel), rfl⟩, by decide +kernel, by decide +kernel, rfl⟩
theorem lc_m_swaps : LkC M_m_swaps 2 := ⟨⟨List.mem_of_getElem? (i := 2014) (by decide +kernel), rfl⟩, ⟨List.mem_of_getElem? (i := 135) (by decide +kernel), rfl⟩, by decide +kernel, by decide +kernel, rfl⟩
theorem lc_m_thrown : LkC M_m_thrown 0 := ⟨⟨List.mem_of_getElem? (i := 1512) (by decide +kernel), rfl⟩, ⟨List.mem_of_getElem? (i := 135) (by decide +kernel), rfl⟩, by decide +kernel, by decide +kernel, rfl⟩
theorem lc_m_timely : LkC M_m_timely 0 := ⟨⟨List.mem_of_getElem? (i := 2002) (by decide +kernel), rfl⟩, ⟨List.mem_of_getElem? (i := 135) (by decide +kernel), rfl⟩, by decide +kernel, by decide +kernel, rfl⟩
theorem lc_m_toothBehind : LkC M_m_toothBehind 3 := ⟨⟨List.mem_of_getElem? (i := 1902) (by decide +kernel), rfl⟩, ⟨List.mem_of_getElem? (i := 135) (by decide +kernel), rfl⟩, by decide +kernel, by decide +kernel, rfl⟩
theorem lc_m_toothIn : LkC M_m_toothIn 2 := ⟨⟨List.mem_of_getElem? (i := 1889) (by decide +kernel), rfl⟩, ⟨List.mem_of_getElem? (i := 135) (by decide +kernel), rfl⟩, by decide +kernel, by decide +kernel, rfl⟩
theorem lc_m_trouble : LkC M_m_trouble 0 := ⟨⟨List.mem_of_getElem? (i := 2214) (by decide +kernel), rfl⟩, ⟨List.mem_of_getElem? (i := 135) (by decide +kernel), rfl⟩, by decide +kernel, by decide +kernel, rfl⟩
theorem lc_m_turn : LkC M_m_turn 0 := ⟨⟨List.mem_of_getElem? (i := 2161) (by decide +kernel), rfl⟩, ⟨List.mem_of_getElem? (i := 135) (by decide +kernel), rfl⟩, by decide +kernel, by decide +kernel, rfl⟩
theorem lc_m_turnBack : LkC M_m_turnBack 0 := ⟨⟨List.mem_of_getElem? (i := 2174) (by decide +kernel), rfl⟩, ⟨List.mem_of_getElem? (i := 135) (by decide +kernel), rfl⟩, by decide +kernel, by decide +kernel, rfl⟩
theorem lc_m_undo : LkC M_m_undo 0 := ⟨⟨List.mem_of_getElem? (i := 2194) (by decide +kernel), rfl⟩, ⟨List.mem_of_getElem? (i := 135) (by decide +kernel), rfl⟩, by decide +kernel, by decide +kernel, rfl⟩
theorem lc_m_value : LkC M_m_value 2 := ⟨⟨List.mem_of_getElem? (i := 2082) (by decide +kernel), rfl⟩, ⟨List.mem_of_getElem? (i := 135) (by decide +kernel), rfl⟩, by decide +kernel, by decide +kernel, rfl⟩
theorem lc_m_way : LkC M_m_way 2 := ⟨⟨List.mem_of_getElem? (i := 1910) (by decide +kernel), rfl⟩, ⟨List.mem_of_getElem? (i := 135) (by decide +kernel), rfl⟩, by decide +kernel, by decide +kernel, rfl⟩
theorem lc_m_wheel : LkC M_m_wheel 2 := ⟨⟨List.mem_of_getElem? (i := 1853) (by decide +kernel), rfl⟩, ⟨List.mem_of_getElem? (i := 135) (by decide +kernel), rfl⟩, by decide +kernel, by decide +kernel, rfl⟩
theorem lc_m_where : LkC M_m_where 0 := ⟨⟨List.mem_of_getElem? (i := 1849) (by decide +kernel), rfl⟩, ⟨List.mem_of_getElem? (i := 135) (by decide +kernel), rfl⟩, by decide +kernel, by decide +kernel, rfl⟩
theorem lc_m_wholeAtHand : LkC M_m_wholeAtHand 2 := ⟨⟨List.mem_of_getElem? (i := 1737) (by decide +kernel), rfl⟩, ⟨List.mem_of_getElem? (i := 135) (by decide +kernel), rfl⟩, by decide +kernel, by decide +kernel, rfl⟩
theorem lc_m_wholeOf : LkC M_m_wholeOf 1 := ⟨⟨List.mem_of_getElem? (i := 2121) (by decide +kernel), rfl⟩, ⟨List.mem_of_getElem? (i := 135) (by decide +kernel), rfl⟩, by decide +kernel, by decide +kernel, rfl⟩
theorem lc_m_work : LkC M_m_work 2 := ⟨⟨List.mem_of_getElem? (i := 1885) (by decide +kernel), rfl⟩, ⟨List.mem_of_getElem? (i := 135) (by decide +kernel), rfl⟩, by decide +kernel, by decide +kernel, rfl⟩
theorem lc_m_works : LkC M_m_works 0 := ⟨⟨List.mem_of_getElem? (i := 1877) (by decide +kernel), rfl⟩, ⟨List.mem_of_getElem? (i := 135) (by decide +kernel), rfl⟩, by decide +kernel, by decide +kernel, rfl⟩
theorem lc_m_worthOf : LkC M_m_worthOf 1 := ⟨⟨List.mem_of_getElem? (i := 2006) (by decide +kernel), rfl⟩, ⟨List.mem_of_getElem? (i := 135) (by decide +kernel), rfl⟩, by decide +kernel, by decide +kernel, rfl⟩
theorem lc_m_wrong : LkC M_m_wrong 1 := ⟨⟨List.mem_of_getElem? (i := 2054) (by decide +kernel), rfl⟩, ⟨List.mem_of_getElem? (i := 135) (by decide +kernel), rfl⟩, by decide +kernel, by decide +kernel, rfl⟩
theorem lc_m_yearFeasts : LkC M_m_yearFeasts 3 := ⟨⟨List.mem_of_getElem? (i := 2153) (by decide +kernel), rfl⟩, ⟨List.mem_of_getElem? (i := 135) (by decide +kernel), rfl⟩, by decide +kernel, by decide +kernel, rfl⟩
theorem lc_m_years : LkC M_m_years 3 := ⟨⟨List.mem_of_getElem? (i := 2137) (by decide +kernel), rfl⟩, ⟨List.mem_of_getElem? (i := 135) (by decide +kernel), rfl⟩, by decide +kernel, by decide +kernel, rfl⟩
theorem lc_m_yearsAll : LkC M_m_yearsAll 3 := ⟨⟨List.mem_of_getElem? (i := 2146) (by decide +kernel), rfl⟩, ⟨List.mem_of_getElem? (i := 135) (by decide +kernel), rfl⟩, by decide +kernel, by decide +kernel, rfl⟩
theorem lc_n_find : LkC M_n_find 1 := ⟨⟨List.mem_of_getElem? (i := 1769) (by decide +kernel), rfl⟩, ⟨List.mem_of_getElem? (i := 138) (by decide +kernel), rfl⟩, by decide +kernel, by decide +kernel, rfl⟩
theorem lc_n_init : LkC M_n_init 0 := ⟨⟨List.mem_of_getElem? (i := 1529) (by decide +kernel), rfl⟩, ⟨List.mem_of_getElem? (i := 138) (by decide +kernel), rfl⟩, by decide +kernel, by decide +kernel, rfl⟩
theorem lc_n_isGone : LkC M_n_isGone 2 := ⟨⟨List.mem_of_getElem? (i := 1796) (by decide +kernel), rfl⟩, ⟨List.mem_of_getElem? (i := 138) (by decide +kernel), rfl⟩, by decide +kernel, by decide +kernel, rfl⟩
theorem lc_n_isSeen : LkC M_n_isSeen 1 := ⟨⟨List.mem_of_getElem? (i := 1837) (by decide +kernel), rfl⟩, ⟨List.mem_of_getElem? (i := 138) (by decide +kernel), rfl⟩, by decide +kernel, by decide +kernel, rfl⟩
theorem lc_n_manyGone : LkC M_n_manyGone 1 := ⟨⟨List.mem_of_getElem? (i := 1792) (by decide +kernel), rfl⟩, ⟨List.mem_of_getElem? (i := 138) (by decide +kernel), rfl⟩, by decide +kernel, by decide +kernel, rfl⟩
theorem li_B_init : Lk (.instanceMethod (mY M_B_init)) := ⟨List.mem_of_getElem? (i := 151) (by decide +kernel), rfl⟩
theorem li_C_init : Lk (.instanceMethod (mY M_C_init)) := ⟨List.mem_of_getElem? (i := 382) (by decide +kernel), rfl⟩
theorem li_G_init : Lk (.instanceMethod (mY M_G_init)) := ⟨List.mem_of_getElem? (i := 517) (by decide +kernel), rfl⟩
theorem li_H_init : Lk (.instanceMethod (mY M_H_init)) := ⟨List.mem_of_getElem? (i := 539) (by decide +kernel), rfl⟩
theorem li_K_init : Lk (.instanceMethod (mY M_K_init)) := ⟨List.mem_of_getElem? (i := 452) (by decide +kernel), rfl⟩
theorem li_O_init : Lk (.instanceMethod (mY M_O_init)) := ⟨List.mem_of_getElem? (i := 218) (by decide +kernel), rfl⟩
theorem li_P_init : Lk (.instanceMethod (mY M_P_init)) := ⟨List.mem_of_getElem? (i := 358) (by decide +kernel), rfl⟩
theorem li_R_init : Lk (.instanceMethod (mY M_R_init)) := ⟨List.mem_of_getElem? (i := 159) (by decide +kernel), rfl⟩
theorem li_S_init : Lk (.instanceMethod (mY M_S_init)) := ⟨List.mem_of_getElem? (i := 480) (by decide +kernel), rfl⟩
theorem li_U_init : Lk (.instanceMethod (mY M_U_init)) := ⟨List.mem_of_getElem? (i := 391) (by decide +kernel), rfl⟩
theorem li_W_init : Lk (.instanceMethod (mY M_W_init)) := ⟨List.mem_of_getElem? (i := 225) (by decide +kernel), rfl⟩
theorem li_m_init : Lk (.instanceMethod (mY M_m_init)) := ⟨List.mem_of_getElem? (i := 1397) (by decide +kernel), rfl⟩
theorem li_n_init : Lk (.instanceMethod (mY M_n_init)) := ⟨List.mem_of_getElem? (i := 1528) (by decide +kernel), rfl⟩
theorem lk_B_13 : Lk (.classLink "BrassYear" 13 "BrassYear$Reader") := ⟨List.mem_of_getElem? (i := 156) (by decide +kernel), rfl⟩
theorem lk_B_169 : Lk (.constant "BrassYear" 169 1000000) := ⟨List.mem_of_getElem? (i := 841) (by decide +kernel), rfl⟩
theorem lk_B_20 : Lk (.classLink "BrassYear" 20 "BrassYear$Orrery") := ⟨List.mem_of_getElem? (i := 215) (by decide +kernel), rfl⟩
theorem lk_B_313 : Lk (.constant "BrassYear" 313 65536) := ⟨List.mem_of_getElem? (i := 1226) (by decide +kernel), rfl⟩
theorem lk_B_314 : Lk (.methodLink "BrassYear" 314 arraycopyName) := ⟨List.mem_of_getElem? (i := 1231) (by decide +kernel), rfl⟩
theorem lk_B_323 : Lk (.constant "BrassYear" 323 65537) := ⟨List.mem_of_getElem? (i := 1233) (by decide +kernel), rfl⟩
theorem lk_B_335 : Lk (.constant "BrassYear" 335 999999) := ⟨List.mem_of_getElem? (i := 1251) (by decide +kernel), rfl⟩
theorem lk_B_37 : Lk (.classLink "BrassYear" 37 "BrassYear$Past") := ⟨List.mem_of_getElem? (i := 355) (by decide +kernel), rfl⟩
theorem lk_B_44 : Lk (.classLink "BrassYear" 44 "BrassYear$Calendar") := ⟨List.mem_of_getElem? (i := 379) (by decide +kernel), rfl⟩
theorem lk_B_51 : Lk (.classLink "BrassYear" 51 "BrassYear$WorkOrder") := ⟨List.mem_of_getElem? (i := 449) (by decide +kernel), rfl⟩
theorem lk_B_58 : Lk (.classLink "BrassYear" 58 "BrassYear$Suspicion") := ⟨List.mem_of_getElem? (i := 477) (by decide +kernel), rfl⟩
theorem lk_B_65 : Lk (.classLink "BrassYear" 65 "BrassYear$Game") := ⟨List.mem_of_getElem? (i := 514) (by decide +kernel), rfl⟩
theorem lk_B_72 : Lk (.classLink "BrassYear" 72 "BrassYear$Chances") := ⟨List.mem_of_getElem? (i := 536) (by decide +kernel), rfl⟩
theorem lk_C_124 : Lk (.methodLink "BrassYear$Calendar" 124 arraycopyName) := ⟨List.mem_of_getElem? (i := 1006) (by decide +kernel), rfl⟩
theorem lk_C_17 : Lk (.classLink "BrassYear$Calendar" 17 "BrassYear$Wheel") := ⟨List.mem_of_getElem? (i := 387) (by decide +kernel), rfl⟩
theorem lk_C_9 : Lk (.classLink "BrassYear$Calendar" 9 "BrassYear$Course") := ⟨List.mem_of_getElem? (i := 385) (by decide +kernel), rfl⟩
theorem lk_G_27 : Lk (.methodLink "BrassYear$Game" 27 arraycopyName) := ⟨List.mem_of_getElem? (i := 1148) (by decide +kernel), rfl⟩
theorem lk_G_9 : Lk (.classLink "BrassYear$Game" 9 "[[I") := ⟨List.mem_of_getElem? (i := 520) (by decide +kernel), rfl⟩
theorem lk_H_51 : Lk (.constantLong "BrassYear$Chances" 51 100) := ⟨List.mem_of_getElem? (i := 1199) (by decide +kernel), rfl⟩
theorem lk_K_50 : Lk (.methodLink "BrassYear$WorkOrder" 50 arraycopyName) := ⟨List.mem_of_getElem? (i := 1052) (by decide +kernel), rfl⟩
theorem lk_Law_16 : Lk (.classLink "BrassYearLaw" 16 "BrassYearModel") := ⟨List.mem_of_getElem? (i := 1394) (by decide +kernel), rfl⟩
theorem lk_Law_8 : Lk (.classLink "BrassYearLaw" 8 "BrassYear") := ⟨List.mem_of_getElem? (i := 148) (by decide +kernel), rfl⟩
theorem lk_O_9 : Lk (.classLink "BrassYear$Orrery" 9 "BrassYear$Wheel") := ⟨List.mem_of_getElem? (i := 221) (by decide +kernel), rfl⟩
theorem lk_P_28 : Lk (.methodLink "BrassYear$Past" 28 arraycopyName) := ⟨List.mem_of_getElem? (i := 1256) (by decide +kernel), rfl⟩
theorem lk_R_103 : Lk (.constantLong "BrassYear$Reader" 103 439787549556) := ⟨List.mem_of_getElem? (i := 659) (by decide +kernel), rfl⟩
theorem lk_R_108 : Lk (.constantLong "BrassYear$Reader" 108 2003792491) := ⟨List.mem_of_getElem? (i := 660) (by decide +kernel), rfl⟩
theorem lk_R_113 : Lk (.constantLong "BrassYear$Reader" 113 7564153) := ⟨List.mem_of_getElem? (i := 661) (by decide +kernel), rfl⟩
theorem lk_R_118 : Lk (.constantLong "BrassYear$Reader" 118 32498760989107060) := ⟨List.mem_of_getElem? (i := 662) (by decide +kernel), rfl⟩
theorem lk_R_123 : Lk (.constantLong "BrassYear$Reader" 123 116983943882084) := ⟨List.mem_of_getElem? (i := 663) (by decide +kernel), rfl⟩
theorem lk_R_133 : Lk (.constantLong "BrassYear$Reader" 133 7301484) := ⟨List.mem_of_getElem? (i := 681) (by decide +kernel), rfl⟩
theorem lk_R_141 : Lk (.constantLong "BrassYear$Reader" 141 495740088435) := ⟨List.mem_of_getElem? (i := 686) (by decide +kernel), rfl⟩
theorem lk_R_153 : Lk (.constantLong "BrassYear$Reader" 153 499917354088) := ⟨List.mem_of_getElem? (i := 707) (by decide +kernel), rfl⟩
theorem lk_R_155 : Lk (.constantLong "BrassYear$Reader" 155 25209) := ⟨List.mem_of_getElem? (i := 708) (by decide +kernel), rfl⟩
theorem lk_R_157 : Lk (.constantLong "BrassYear$Reader" 157 24948) := ⟨List.mem_of_getElem? (i := 709) (by decide +kernel), rfl⟩
theorem lk_R_169 : Lk (.constantLong "BrassYear$Reader" 169 1836019566) := ⟨List.mem_of_getElem? (i := 703) (by decide +kernel), rfl⟩
theorem lk_R_171 : Lk (.constantLong "BrassYear$Reader" 171 32765899314457701) := ⟨List.mem_of_getElem? (i := 704) (by decide +kernel), rfl⟩
theorem lk_R_173 : Lk (.constantLong "BrassYear$Reader" 173 1650811236) := ⟨List.mem_of_getElem? (i := 705) (by decide +kernel), rfl⟩
theorem lk_R_175 : Lk (.constantLong "BrassYear$Reader" 175 123610793403764) := ⟨List.mem_of_getElem? (i := 706) (by decide +kernel), rfl⟩
theorem lk_R_217 : Lk (.constantLong "BrassYear$Reader" 217 499850634611) := ⟨List.mem_of_getElem? (i := 750) (by decide +kernel), rfl⟩
theorem lk_R_219 : Lk (.constantLong "BrassYear$Reader" 219 512970880104) := ⟨List.mem_of_getElem? (i := 751) (by decide +kernel), rfl⟩
theorem lk_R_233 : Lk (.constantLong "BrassYear$Reader" 233 435778056825) := ⟨List.mem_of_getElem? (i := 760) (by decide +kernel), rfl⟩
theorem lk_R_235 : Lk (.constantLong "BrassYear$Reader" 235 1718775661) := ⟨List.mem_of_getElem? (i := 761) (by decide +kernel), rfl⟩
theorem lk_R_246 : Lk (.constantLong "BrassYear$Reader" 246 6578553) := ⟨List.mem_of_getElem? (i := 770) (by decide +kernel), rfl⟩
theorem lk_R_265 : Lk (.constantLong "BrassYear$Reader" 265 126913858204776) := ⟨List.mem_of_getElem? (i := 664) (by decide +kernel), rfl⟩
theorem lk_R_84 : Lk (.constantLong "BrassYear$Reader" 84 422825784179) := ⟨List.mem_of_getElem? (i := 656) (by decide +kernel), rfl⟩
theorem lk_R_93 : Lk (.constantLong "BrassYear$Reader" 93 512852583788) := ⟨List.mem_of_getElem? (i := 657) (by decide +kernel), rfl⟩
theorem lk_R_98 : Lk (.constantLong "BrassYear$Reader" 98 1735356005) := ⟨List.mem_of_getElem? (i := 658) (by decide +kernel), rfl⟩
theorem lk_S_9 : Lk (.classLink "BrassYear$Suspicion" 9 "BrassYear$Wheel") := ⟨List.mem_of_getElem? (i := 483) (by decide +kernel), rfl⟩
theorem lk_m_171 : Lk (.classLink "BrassYearModel" 171 "BrassYearModel$Orrery") := ⟨List.mem_of_getElem? (i := 1525) (by decide +kernel), rfl⟩
theorem lk_m_391 : Lk (.constant "BrassYearModel" 391 1000000) := ⟨List.mem_of_getElem? (i := 1890) (by decide +kernel), rfl⟩
theorem lk_m_486 : Lk (.constantLong "BrassYearModel" 486 100) := ⟨List.mem_of_getElem? (i := 2122) (by decide +kernel), rfl⟩
theorem lk_m_506 : Lk (.constantLong "BrassYearModel" 506 75) := ⟨List.mem_of_getElem? (i := 2147) (by decide +kernel), rfl⟩
theorem lk_m_508 : Lk (.constantLong "BrassYearModel" 508 74) := ⟨List.mem_of_getElem? (i := 2148) (by decide +kernel), rfl⟩
theorem lk_m_510 : Lk (.constantLong "BrassYearModel" 510 65537) := ⟨List.mem_of_getElem? (i := 2149) (by decide +kernel), rfl⟩
theorem lk_m_512 : Lk (.constant "BrassYearModel" 512 65536) := ⟨List.mem_of_getElem? (i := 2142) (by decide +kernel), rfl⟩
theorem lk_m_520 : Lk (.constant "BrassYearModel" 520 999999) := ⟨List.mem_of_getElem? (i := 2162) (by decide +kernel), rfl⟩
theorem lk_m_80 : Lk (.constantLong "BrassYearModel" 80 32) := ⟨List.mem_of_getElem? (i := 1645) (by decide +kernel), rfl⟩
theorem lka_B : Lk (.arrayClass .byte) := ⟨List.mem_of_getElem? (i := 212) (by decide +kernel), rfl⟩
theorem lka_I : Lk (.arrayClass .int) := ⟨List.mem_of_getElem? (i := 214) (by decide +kernel), rfl⟩
theorem lka_J : Lk (.arrayClass .long) := ⟨List.mem_of_getElem? (i := 213) (by decide +kernel), rfl⟩
theorem lka_Z : Lk (.arrayClass .boolean) := ⟨List.mem_of_getElem? (i := 265) (by decide +kernel), rfl⟩
theorem lki_B : Lk (.initialized "BrassYear") := ⟨List.mem_of_getElem? (i := 124) (by decide +kernel), rfl⟩
theorem lki_C : Lk (.initialized "BrassYear$Calendar") := ⟨List.mem_of_getElem? (i := 129) (by decide +kernel), rfl⟩
theorem lki_G : Lk (.initialized "BrassYear$Game") := ⟨List.mem_of_getElem? (i := 133) (by decide +kernel), rfl⟩
theorem lki_H : Lk (.initialized "BrassYear$Chances") := ⟨List.mem_of_getElem? (i := 134) (by decide +kernel), rfl⟩
theorem lki_K : Lk (.initialized "BrassYear$WorkOrder") := ⟨List.mem_of_getElem? (i := 131) (by decide +kernel), rfl⟩
theorem lki_O : Lk (.initialized "BrassYear$Orrery") := ⟨List.mem_of_getElem? (i := 126) (by decide +kernel), rfl⟩
theorem lki_P : Lk (.initialized "BrassYear$Past") := ⟨List.mem_of_getElem? (i := 128) (by decide +kernel), rfl⟩
theorem lki_R : Lk (.initialized "BrassYear$Reader") := ⟨List.mem_of_getElem? (i := 125) (by decide +kernel), rfl⟩
theorem lki_S : Lk (.initialized "BrassYear$Suspicion") := ⟨List.mem_of_getElem? (i := 132) (by decide +kernel), rfl⟩
theorem lki_U : Lk (.initialized "BrassYear$Course") := ⟨List.mem_of_getElem? (i := 130) (by decide +kernel), rfl⟩
theorem lki_W : Lk (.initialized "BrassYear$Wheel") := ⟨List.mem_of_getElem? (i := 127) (by decide +kernel), rfl⟩
theorem lki_m : Lk (.initialized "BrassYearModel") := ⟨List.mem_of_getElem? (i := 135) (by decide +kernel), rfl⟩
theorem lki_n : Lk (.initialized "BrassYearModel$Orrery") := ⟨List.mem_of_getElem? (i := 138) (by decide +kernel), rfl⟩
theorem lkn_B : Lk (.instantiable "BrassYear" 16) := ⟨List.mem_of_getElem? (i := 149) (by decide +kernel), rfl⟩
theorem lkn_C : Lk (.instantiable "BrassYear$Calendar" 9) := ⟨List.mem_of_getElem? (i := 380) (by decide +kernel), rfl⟩
theorem lkn_G : Lk (.instantiable "BrassYear$Game" 4) := ⟨List.mem_of_getElem? (i := 515) (by decide +kernel), rfl⟩
theorem lkn_H : Lk (.instantiable "BrassYear$Chances" 4) := ⟨List.mem_of_getElem? (i := 537) (by decide +kernel), rfl⟩
theorem lkn_K : Lk (.instantiable "BrassYear$WorkOrder" 6) := ⟨List.mem_of_getElem? (i := 450) (by decide +kernel), rfl⟩
theorem lkn_O : Lk (.instantiable "BrassYear$Orrery" 16) := ⟨List.mem_of_getElem? (i := 216) (by decide +kernel), rfl⟩
theorem lkn_P : Lk (.instantiable "BrassYear$Past" 5) := ⟨List.mem_of_getElem? (i := 356) (by decide +kernel), rfl⟩
theorem lkn_R : Lk (.instantiable "BrassYear$Reader" 16) := ⟨List.mem_of_getElem? (i := 157) (by decide +kernel), rfl⟩
theorem lkn_S : Lk (.instantiable "BrassYear$Suspicion" 8) := ⟨List.mem_of_getElem? (i := 478) (by decide +kernel), rfl⟩
theorem lkn_U : Lk (.instantiable "BrassYear$Course" 8) := ⟨List.mem_of_getElem? (i := 389) (by decide +kernel), rfl⟩
theorem lkn_W : Lk (.instantiable "BrassYear$Wheel" 6) := ⟨List.mem_of_getElem? (i := 223) (by decide +kernel), rfl⟩
theorem lkn_m : Lk (.instantiable "BrassYearModel" 36) := ⟨List.mem_of_getElem? (i := 1395) (by decide +kernel), rfl⟩
theorem lkn_n : Lk (.instantiable "BrassYearModel$Orrery" 27) := ⟨List.mem_of_getElem? (i := 1526) (by decide +kernel), rfl⟩
theorem lko_U : Cond.arrayOver (.object "BrassYear$Course") ∈ lw_tbl := List.mem_of_getElem? (i := 386) (by decide +kernel)
theorem lko_W : Cond.arrayOver (.object "BrassYear$Wheel") ∈ lw_tbl := List.mem_of_getElem? (i := 222) (by decide +kernel)
theorem lko_aI : Cond.arrayOver (.array .int) ∈ lw_tbl := List.mem_of_getElem? (i := 521) (by decide +kernel)
theorem lob2 : Lk (.instanceMethod objectInit) := ⟨List.mem_of_getElem? (i := 154) (by decide +kernel), rfl⟩
theorem lob3 : Lk (.code objectInit ⟨#[0xb1]⟩ 1 none) := ⟨List.mem_of_getElem? (i := 155) (by decide +kernel), rfl⟩
theorem lob_B : Lk (.methodLink "BrassYear" 3 objectInit) := ⟨List.mem_of_getElem? (i := 153) (by decide +kernel), rfl⟩
theorem lob_C : Lk (.methodLink "BrassYear$Calendar" 3 objectInit) := ⟨List.mem_of_getElem? (i := 384) (by decide +kernel), rfl⟩
theorem lob_G : Lk (.methodLink "BrassYear$Game" 3 objectInit) := ⟨List.mem_of_getElem? (i := 519) (by decide +kernel), rfl⟩
theorem lob_H : Lk (.methodLink "BrassYear$Chances" 3 objectInit) := ⟨List.mem_of_getElem? (i := 541) (by decide +kernel), rfl⟩
theorem lob_K : Lk (.methodLink "BrassYear$WorkOrder" 3 objectInit) := ⟨List.mem_of_getElem? (i := 454) (by decide +kernel), rfl⟩
theorem lob_O : Lk (.methodLink "BrassYear$Orrery" 3 objectInit) := ⟨List.mem_of_getElem? (i := 220) (by decide +kernel), rfl⟩
theorem lob_P : Lk (.methodLink "BrassYear$Past" 3 objectInit) := ⟨List.mem_of_getElem? (i := 360) (by decide +kernel), rfl⟩
theorem lob_R : Lk (.methodLink "BrassYear$Reader" 3 objectInit) := ⟨List.mem_of_getElem? (i := 161) (by decide +kernel), rfl⟩
theorem lob_S : Lk (.methodLink "BrassYear$Suspicion" 3 objectInit) := ⟨List.mem_of_getElem? (i := 482) (by decide +kernel), rfl⟩
theorem lob_U : Lk (.methodLink "BrassYear$Course" 3 objectInit) := ⟨List.mem_of_getElem? (i := 393) (by decide +kernel), rfl⟩
theorem lob_W : Lk (.methodLink "BrassYear$Wheel" 3 objectInit) := ⟨List.mem_of_getElem? (i := 227) (by decide +kernel), rfl⟩
theorem lob_m : Lk (.methodLink "BrassYearModel" 3 objectInit) := ⟨List.mem_of_getElem? (i := 1399) (by decide +kernel), rfl⟩
theorem lob_n : Lk (.methodLink "BrassYearModel$Orrery" 3 objectInit) := ⟨List.mem_of_getElem? (i := 1530) (by decide +kernel), rfl⟩
theorem ls_Arr_fillI : Lk (.static (mY M_Arr_fillI)) := ⟨List.mem_of_getElem? (i := 634) (by decide +kernel), rfl⟩
theorem ls_Arr_fillJ : Lk (.static (mY M_Arr_fillJ)) := ⟨List.mem_of_getElem? (i := 1192) (by decide +kernel), rfl⟩
theorem ls_B_isNoYear : Lk (.static (mY M_B_isNoYear)) := ⟨List.mem_of_getElem? (i := 1224) (by decide +kernel), rfl⟩
theorem ls_B_remainder : Lk (.static (mY M_B_remainder)) := ⟨List.mem_of_getElem? (i := 881) (by decide +kernel), rfl⟩
theorem ls_H_commonDivisor : Lk (.static (mY M_H_commonDivisor)) := ⟨List.mem_of_getElem? (i := 1213) (by decide +kernel), rfl⟩
theorem ls_Lat_charAt : Lk (.static (mY M_Lat_charAt)) := ⟨List.mem_of_getElem? (i := 1684) (by decide +kernel), rfl⟩
theorem ls_Math_max : Lk (.static (mY M_Math_max)) := ⟨List.mem_of_getElem? (i := 869) (by decide +kernel), rfl⟩
theorem ls_Math_min : Lk (.static (mY M_Math_min)) := ⟨List.mem_of_getElem? (i := 627) (by decide +kernel), rfl⟩
theorem ls_Pre_checkIndex : Lk (.static (mY M_Pre_checkIndex)) := ⟨List.mem_of_getElem? (i := 1692) (by decide +kernel), rfl⟩
theorem ls_Str_checkIndex : Lk (.static (mY M_Str_checkIndex)) := ⟨List.mem_of_getElem? (i := 1687) (by decide +kernel), rfl⟩
theorem ls_m_bit : Lk (.static (mY M_m_bit)) := ⟨List.mem_of_getElem? (i := 1803) (by decide +kernel), rfl⟩
theorem ls_m_common : Lk (.static (mY M_m_common)) := ⟨List.mem_of_getElem? (i := 2128) (by decide +kernel), rfl⟩
theorem ls_m_in : Lk (.static (mY M_m_in)) := ⟨List.mem_of_getElem? (i := 1739) (by decide +kernel), rfl⟩
theorem ls_m_isDigit : Lk (.static (mY M_m_isDigit)) := ⟨List.mem_of_getElem? (i := 1647) (by decide +kernel), rfl⟩
theorem ls_m_isLetter : Lk (.static (mY M_m_isLetter)) := ⟨List.mem_of_getElem? (i := 1643) (by decide +kernel), rfl⟩
theorem ls_m_packed : Lk (.static (mY M_m_packed)) := ⟨List.mem_of_getElem? (i := 1663) (by decide +kernel), rfl⟩
theorem ls_m_wholeOf : Lk (.static (mY M_m_wholeOf)) := ⟨List.mem_of_getElem? (i := 2120) (by decide +kernel), rfl⟩
theorem lv_B_agree_ : LkV M_B_agree := ⟨⟨List.mem_of_getElem? (i := 1062) (by decide +kernel), rfl⟩, ⟨List.mem_of_getElem? (i := 1063) (by decide +kernel), rfl⟩⟩
theorem lv_B_allow_ : LkV M_B_allow := ⟨⟨List.mem_of_getElem? (i := 1278) (by decide +kernel), rfl⟩, ⟨List.mem_of_getElem? (i := 50) (by decide +kernel), rfl⟩⟩
theorem lv_B_append_ : LkV M_B_append := ⟨⟨List.mem_of_getElem? (i := 612) (by decide +kernel), rfl⟩, ⟨List.mem_of_getElem? (i := 0) (by decide +kernel), rfl⟩⟩
theorem lv_B_back_ : LkV M_B_back := ⟨⟨List.mem_of_getElem? (i := 1297) (by decide +kernel), rfl⟩, ⟨List.mem_of_getElem? (i := 1298) (by decide +kernel), rfl⟩⟩
theorem lv_B_byFor_ : LkV M_B_byFor := ⟨⟨List.mem_of_getElem? (i := 1011) (by decide +kernel), rfl⟩, ⟨List.mem_of_getElem? (i := 1012) (by decide +kernel), rfl⟩⟩
theorem lv_B_byIn_ : LkV M_B_byIn := ⟨⟨List.mem_of_getElem? (i := 1024) (by decide +kernel), rfl⟩, ⟨List.mem_of_getElem? (i := 1025) (by decide +kernel), rfl⟩⟩
theorem lv_B_comesRound_ : LkV M_B_comesRound := ⟨⟨List.mem_of_getElem? (i := 892) (by decide +kernel), rfl⟩, ⟨List.mem_of_getElem? (i := 893) (by decide +kernel), rfl⟩⟩
theorem lv_B_courseOf_ : LkV M_B_courseOf := ⟨⟨List.mem_of_getElem? (i := 844) (by decide +kernel), rfl⟩, ⟨List.mem_of_getElem? (i := 27) (by decide +kernel), rfl⟩⟩
theorem lv_B_daysToCome_ : LkV M_B_daysToCome := ⟨⟨List.mem_of_getElem? (i := 917) (by decide +kernel), rfl⟩, ⟨List.mem_of_getElem? (i := 29) (by decide +kernel), rfl⟩⟩
theorem lv_B_deny_ : LkV M_B_deny := ⟨⟨List.mem_of_getElem? (i := 1274) (by decide +kernel), rfl⟩, ⟨List.mem_of_getElem? (i := 49) (by decide +kernel), rfl⟩⟩
theorem lv_B_drift_ : LkV M_B_drift := ⟨⟨List.mem_of_getElem? (i := 1071) (by decide +kernel), rfl⟩, ⟨List.mem_of_getElem? (i := 1072) (by decide +kernel), rfl⟩⟩
theorem lv_B_fault_ : LkV M_B_fault := ⟨⟨List.mem_of_getElem? (i := 788) (by decide +kernel), rfl⟩, ⟨List.mem_of_getElem? (i := 789) (by decide +kernel), rfl⟩⟩
theorem lv_B_feed_ : LkV M_B_feed := ⟨⟨List.mem_of_getElem? (i := 607) (by decide +kernel), rfl⟩, ⟨List.mem_of_getElem? (i := 608) (by decide +kernel), rfl⟩⟩
theorem lv_B_fitAt_ : LkV M_B_fitAt := ⟨⟨List.mem_of_getElem? (i := 1124) (by decide +kernel), rfl⟩, ⟨List.mem_of_getElem? (i := 1125) (by decide +kernel), rfl⟩⟩
theorem lv_B_fits_ : LkV M_B_fits := ⟨⟨List.mem_of_getElem? (i := 1081) (by decide +kernel), rfl⟩, ⟨List.mem_of_getElem? (i := 1082) (by decide +kernel), rfl⟩⟩
theorem lv_B_grant_ : LkV M_B_grant := ⟨⟨List.mem_of_getElem? (i := 785) (by decide +kernel), rfl⟩, ⟨List.mem_of_getElem? (i := 24) (by decide +kernel), rfl⟩⟩
theorem lv_B_hasFeast_ : LkV M_B_hasFeast := ⟨⟨List.mem_of_getElem? (i := 913) (by decide +kernel), rfl⟩, ⟨List.mem_of_getElem? (i := 28) (by decide +kernel), rfl⟩⟩
theorem lv_B_hasOrrery_ : LkV M_B_hasOrrery := ⟨⟨List.mem_of_getElem? (i := 823) (by decide +kernel), rfl⟩, ⟨List.mem_of_getElem? (i := 26) (by decide +kernel), rfl⟩⟩
theorem lv_B_hasWheelOfFeast_ : LkV M_B_hasWheelOfFeast := ⟨⟨List.mem_of_getElem? (i := 990) (by decide +kernel), rfl⟩, ⟨List.mem_of_getElem? (i := 33) (by decide +kernel), rfl⟩⟩
theorem lv_B_hasWheel_ : LkV M_B_hasWheel := ⟨⟨List.mem_of_getElem? (i := 801) (by decide +kernel), rfl⟩, ⟨List.mem_of_getElem? (i := 25) (by decide +kernel), rfl⟩⟩
theorem lv_B_idle_ : LkV M_B_idle := ⟨⟨List.mem_of_getElem? (i := 900) (by decide +kernel), rfl⟩, ⟨List.mem_of_getElem? (i := 901) (by decide +kernel), rfl⟩⟩
theorem lv_B_image_ : LkV M_B_image := ⟨⟨List.mem_of_getElem? (i := 1289) (by decide +kernel), rfl⟩, ⟨List.mem_of_getElem? (i := 1290) (by decide +kernel), rfl⟩⟩
theorem lv_B_inTime_ : LkV M_B_inTime := ⟨⟨List.mem_of_getElem? (i := 1058) (by decide +kernel), rfl⟩, ⟨List.mem_of_getElem? (i := 1059) (by decide +kernel), rfl⟩⟩
theorem lv_B_isGone_ : LkV M_B_isGone := ⟨⟨List.mem_of_getElem? (i := 809) (by decide +kernel), rfl⟩, ⟨List.mem_of_getElem? (i := 810) (by decide +kernel), rfl⟩⟩
theorem lv_B_jerkMean_ : LkV M_B_jerkMean := ⟨⟨List.mem_of_getElem? (i := 1216) (by decide +kernel), rfl⟩, ⟨List.mem_of_getElem? (i := 1217) (by decide +kernel), rfl⟩⟩
theorem lv_B_jerks_ : LkV M_B_jerks := ⟨⟨List.mem_of_getElem? (i := 884) (by decide +kernel), rfl⟩, ⟨List.mem_of_getElem? (i := 885) (by decide +kernel), rfl⟩⟩
theorem lv_B_judge_ : LkV M_B_judge := ⟨⟨List.mem_of_getElem? (i := 1136) (by decide +kernel), rfl⟩, ⟨List.mem_of_getElem? (i := 1137) (by decide +kernel), rfl⟩⟩
theorem lv_B_led_ : LkV M_B_led := ⟨⟨List.mem_of_getElem? (i := 1326) (by decide +kernel), rfl⟩, ⟨List.mem_of_getElem? (i := 1327) (by decide +kernel), rfl⟩⟩
theorem lv_B_likely_ : LkV M_B_likely := ⟨⟨List.mem_of_getElem? (i := 1184) (by decide +kernel), rfl⟩, ⟨List.mem_of_getElem? (i := 1185) (by decide +kernel), rfl⟩⟩
theorem lv_B_lineAt_ : LkV M_B_lineAt := ⟨⟨List.mem_of_getElem? (i := 1054) (by decide +kernel), rfl⟩, ⟨List.mem_of_getElem? (i := 1055) (by decide +kernel), rfl⟩⟩
theorem lv_B_lineWorth_ : LkV M_B_lineWorth := ⟨⟨List.mem_of_getElem? (i := 1040) (by decide +kernel), rfl⟩, ⟨List.mem_of_getElem? (i := 1041) (by decide +kernel), rfl⟩⟩
theorem lv_B_liveYears_ : LkV M_B_liveYears := ⟨⟨List.mem_of_getElem? (i := 1229) (by decide +kernel), rfl⟩, ⟨List.mem_of_getElem? (i := 48) (by decide +kernel), rfl⟩⟩
theorem lv_B_longestGap_ : LkV M_B_longestGap := ⟨⟨List.mem_of_getElem? (i := 977) (by decide +kernel), rfl⟩, ⟨List.mem_of_getElem? (i := 978) (by decide +kernel), rfl⟩⟩
theorem lv_B_lookLeaves_ : LkV M_B_lookLeaves := ⟨⟨List.mem_of_getElem? (i := 1132) (by decide +kernel), rfl⟩, ⟨List.mem_of_getElem? (i := 1133) (by decide +kernel), rfl⟩⟩
theorem lv_B_look_ : LkV M_B_look := ⟨⟨List.mem_of_getElem? (i := 1128) (by decide +kernel), rfl⟩, ⟨List.mem_of_getElem? (i := 1129) (by decide +kernel), rfl⟩⟩
theorem lv_B_meet_ : LkV M_B_meet := ⟨⟨List.mem_of_getElem? (i := 961) (by decide +kernel), rfl⟩, ⟨List.mem_of_getElem? (i := 962) (by decide +kernel), rfl⟩⟩
theorem lv_B_moves_ : LkV M_B_moves := ⟨⟨List.mem_of_getElem? (i := 1180) (by decide +kernel), rfl⟩, ⟨List.mem_of_getElem? (i := 1181) (by decide +kernel), rfl⟩⟩
theorem lv_B_next_ : LkV M_B_next := ⟨⟨List.mem_of_getElem? (i := 908) (by decide +kernel), rfl⟩, ⟨List.mem_of_getElem? (i := 909) (by decide +kernel), rfl⟩⟩
theorem lv_B_now_ : LkV M_B_now := ⟨⟨List.mem_of_getElem? (i := 818) (by decide +kernel), rfl⟩, ⟨List.mem_of_getElem? (i := 819) (by decide +kernel), rfl⟩⟩
theorem lv_B_often_ : LkV M_B_often := ⟨⟨List.mem_of_getElem? (i := 952) (by decide +kernel), rfl⟩, ⟨List.mem_of_getElem? (i := 953) (by decide +kernel), rfl⟩⟩
theorem lv_B_oil_ : LkV M_B_oil := ⟨⟨List.mem_of_getElem? (i := 1264) (by decide +kernel), rfl⟩, ⟨List.mem_of_getElem? (i := 1265) (by decide +kernel), rfl⟩⟩
theorem lv_B_orrery_ : LkV M_B_orrery := ⟨⟨List.mem_of_getElem? (i := 615) (by decide +kernel), rfl⟩, ⟨List.mem_of_getElem? (i := 616) (by decide +kernel), rfl⟩⟩
theorem lv_B_refuse_ : LkV M_B_refuse := ⟨⟨List.mem_of_getElem? (i := 620) (by decide +kernel), rfl⟩, ⟨List.mem_of_getElem? (i := 1) (by decide +kernel), rfl⟩⟩
theorem lv_B_setFor_ : LkV M_B_setFor := ⟨⟨List.mem_of_getElem? (i := 985) (by decide +kernel), rfl⟩, ⟨List.mem_of_getElem? (i := 986) (by decide +kernel), rfl⟩⟩
theorem lv_B_set_ : LkV M_B_set := ⟨⟨List.mem_of_getElem? (i := 1269) (by decide +kernel), rfl⟩, ⟨List.mem_of_getElem? (i := 1270) (by decide +kernel), rfl⟩⟩
theorem lv_B_settings_ : LkV M_B_settings := ⟨⟨List.mem_of_getElem? (i := 1028) (by decide +kernel), rfl⟩, ⟨List.mem_of_getElem? (i := 1029) (by decide +kernel), rfl⟩⟩
theorem lv_B_size_ : LkV M_B_size := ⟨⟨List.mem_of_getElem? (i := 1305) (by decide +kernel), rfl⟩, ⟨List.mem_of_getElem? (i := 1306) (by decide +kernel), rfl⟩⟩
theorem lv_B_slips_ : LkV M_B_slips := ⟨⟨List.mem_of_getElem? (i := 1244) (by decide +kernel), rfl⟩, ⟨List.mem_of_getElem? (i := 1245) (by decide +kernel), rfl⟩⟩
theorem lv_B_soonest_ : LkV M_B_soonest := ⟨⟨List.mem_of_getElem? (i := 969) (by decide +kernel), rfl⟩, ⟨List.mem_of_getElem? (i := 970) (by decide +kernel), rfl⟩⟩
theorem lv_B_suspectTrouble_ : LkV M_B_suspectTrouble := ⟨⟨List.mem_of_getElem? (i := 1086) (by decide +kernel), rfl⟩, ⟨List.mem_of_getElem? (i := 37) (by decide +kernel), rfl⟩⟩
theorem lv_B_toothIn_ : LkV M_B_toothIn := ⟨⟨List.mem_of_getElem? (i := 838) (by decide +kernel), rfl⟩, ⟨List.mem_of_getElem? (i := 839) (by decide +kernel), rfl⟩⟩
theorem lv_B_trouble_ : LkV M_B_trouble := ⟨⟨List.mem_of_getElem? (i := 1318) (by decide +kernel), rfl⟩, ⟨List.mem_of_getElem? (i := 1319) (by decide +kernel), rfl⟩⟩
theorem lv_B_turnBack_ : LkV M_B_turnBack := ⟨⟨List.mem_of_getElem? (i := 1259) (by decide +kernel), rfl⟩, ⟨List.mem_of_getElem? (i := 1260) (by decide +kernel), rfl⟩⟩
theorem lv_B_turn_ : LkV M_B_turn := ⟨⟨List.mem_of_getElem? (i := 1248) (by decide +kernel), rfl⟩, ⟨List.mem_of_getElem? (i := 1249) (by decide +kernel), rfl⟩⟩
theorem lv_B_undo_ : LkV M_B_undo := ⟨⟨List.mem_of_getElem? (i := 1281) (by decide +kernel), rfl⟩, ⟨List.mem_of_getElem? (i := 1282) (by decide +kernel), rfl⟩⟩
theorem lv_B_value_ : LkV M_B_value := ⟨⟨List.mem_of_getElem? (i := 1141) (by decide +kernel), rfl⟩, ⟨List.mem_of_getElem? (i := 1142) (by decide +kernel), rfl⟩⟩
theorem lv_B_wheel_ : LkV M_B_wheel := ⟨⟨List.mem_of_getElem? (i := 796) (by decide +kernel), rfl⟩, ⟨List.mem_of_getElem? (i := 797) (by decide +kernel), rfl⟩⟩
theorem lv_B_where_ : LkV M_B_where := ⟨⟨List.mem_of_getElem? (i := 792) (by decide +kernel), rfl⟩, ⟨List.mem_of_getElem? (i := 793) (by decide +kernel), rfl⟩⟩
theorem lv_B_work_ : LkV M_B_work := ⟨⟨List.mem_of_getElem? (i := 834) (by decide +kernel), rfl⟩, ⟨List.mem_of_getElem? (i := 835) (by decide +kernel), rfl⟩⟩
theorem lv_B_yearFeasts_ : LkV M_B_yearFeasts := ⟨⟨List.mem_of_getElem? (i := 1240) (by decide +kernel), rfl⟩, ⟨List.mem_of_getElem? (i := 1241) (by decide +kernel), rfl⟩⟩
theorem lv_B_years_ : LkV M_B_years := ⟨⟨List.mem_of_getElem? (i := 1220) (by decide +kernel), rfl⟩, ⟨List.mem_of_getElem? (i := 1221) (by decide +kernel), rfl⟩⟩
theorem lv_C_agreeingFrom_ : LkV M_C_agreeingFrom := ⟨⟨List.mem_of_getElem? (i := 1067) (by decide +kernel), rfl⟩, ⟨List.mem_of_getElem? (i := 1068) (by decide +kernel), rfl⟩⟩
theorem lv_C_countSettings_ : LkV M_C_countSettings := ⟨⟨List.mem_of_getElem? (i := 1037) (by decide +kernel), rfl⟩, ⟨List.mem_of_getElem? (i := 35) (by decide +kernel), rfl⟩⟩
theorem lv_C_courseFrom_ : LkV M_C_courseFrom := ⟨⟨List.mem_of_getElem? (i := 847) (by decide +kernel), rfl⟩, ⟨List.mem_of_getElem? (i := 848) (by decide +kernel), rfl⟩⟩
theorem lv_C_feastFrom_ : LkV M_C_feastFrom := ⟨⟨List.mem_of_getElem? (i := 925) (by decide +kernel), rfl⟩, ⟨List.mem_of_getElem? (i := 926) (by decide +kernel), rfl⟩⟩
theorem lv_C_feastsUntil_ : LkV M_C_feastsUntil := ⟨⟨List.mem_of_getElem? (i := 956) (by decide +kernel), rfl⟩, ⟨List.mem_of_getElem? (i := 957) (by decide +kernel), rfl⟩⟩
theorem lv_C_findReached_ : LkV M_C_findReached := ⟨⟨List.mem_of_getElem? (i := 1000) (by decide +kernel), rfl⟩, ⟨List.mem_of_getElem? (i := 34) (by decide +kernel), rfl⟩⟩
theorem lv_C_firstDay_ : LkV M_C_firstDay := ⟨⟨List.mem_of_getElem? (i := 930) (by decide +kernel), rfl⟩, ⟨List.mem_of_getElem? (i := 30) (by decide +kernel), rfl⟩⟩
theorem lv_C_meetingFrom_ : LkV M_C_meetingFrom := ⟨⟨List.mem_of_getElem? (i := 965) (by decide +kernel), rfl⟩, ⟨List.mem_of_getElem? (i := 966) (by decide +kernel), rfl⟩⟩
theorem lv_C_settingFor_ : LkV M_C_settingFor := ⟨⟨List.mem_of_getElem? (i := 994) (by decide +kernel), rfl⟩, ⟨List.mem_of_getElem? (i := 995) (by decide +kernel), rfl⟩⟩
theorem lv_C_settingsFor_ : LkV M_C_settingsFor := ⟨⟨List.mem_of_getElem? (i := 1032) (by decide +kernel), rfl⟩, ⟨List.mem_of_getElem? (i := 1033) (by decide +kernel), rfl⟩⟩
theorem lv_C_soonestFeast_ : LkV M_C_soonestFeast := ⟨⟨List.mem_of_getElem? (i := 973) (by decide +kernel), rfl⟩, ⟨List.mem_of_getElem? (i := 974) (by decide +kernel), rfl⟩⟩
theorem lv_C_startFrom_ : LkV M_C_startFrom := ⟨⟨List.mem_of_getElem? (i := 920) (by decide +kernel), rfl⟩, ⟨List.mem_of_getElem? (i := 921) (by decide +kernel), rfl⟩⟩
theorem lv_C_tryBys_ : LkV M_C_tryBys := ⟨⟨List.mem_of_getElem? (i := 1015) (by decide +kernel), rfl⟩, ⟨List.mem_of_getElem? (i := 1016) (by decide +kernel), rfl⟩⟩
theorem lv_C_waitFor_ : LkV M_C_waitFor := ⟨⟨List.mem_of_getElem? (i := 934) (by decide +kernel), rfl⟩, ⟨List.mem_of_getElem? (i := 31) (by decide +kernel), rfl⟩⟩
theorem lv_C_widestGap_ : LkV M_C_widestGap := ⟨⟨List.mem_of_getElem? (i := 981) (by decide +kernel), rfl⟩, ⟨List.mem_of_getElem? (i := 982) (by decide +kernel), rfl⟩⟩
theorem lv_G_makeMove_ : LkV M_G_makeMove := ⟨⟨List.mem_of_getElem? (i := 1155) (by decide +kernel), rfl⟩, ⟨List.mem_of_getElem? (i := 43) (by decide +kernel), rfl⟩⟩
theorem lv_G_play_ : LkV M_G_play := ⟨⟨List.mem_of_getElem? (i := 1145) (by decide +kernel), rfl⟩, ⟨List.mem_of_getElem? (i := 1146) (by decide +kernel), rfl⟩⟩
theorem lv_G_worth_ : LkV M_G_worth := ⟨⟨List.mem_of_getElem? (i := 1151) (by decide +kernel), rfl⟩, ⟨List.mem_of_getElem? (i := 42) (by decide +kernel), rfl⟩⟩
theorem lv_H_goOn_ : LkV M_H_goOn := ⟨⟨List.mem_of_getElem? (i := 1202) (by decide +kernel), rfl⟩, ⟨List.mem_of_getElem? (i := 47) (by decide +kernel), rfl⟩⟩
theorem lv_H_lowest_ : LkV M_H_lowest := ⟨⟨List.mem_of_getElem? (i := 1209) (by decide +kernel), rfl⟩, ⟨List.mem_of_getElem? (i := 1210) (by decide +kernel), rfl⟩⟩
theorem lv_H_spreadDay_ : LkV M_H_spreadDay := ⟨⟨List.mem_of_getElem? (i := 1197) (by decide +kernel), rfl⟩, ⟨List.mem_of_getElem? (i := 46) (by decide +kernel), rfl⟩⟩
theorem lv_H_spread_ : LkV M_H_spread := ⟨⟨List.mem_of_getElem? (i := 1188) (by decide +kernel), rfl⟩, ⟨List.mem_of_getElem? (i := 1189) (by decide +kernel), rfl⟩⟩
theorem lv_K_extend_ : LkV M_K_extend := ⟨⟨List.mem_of_getElem? (i := 1050) (by decide +kernel), rfl⟩, ⟨List.mem_of_getElem? (i := 36) (by decide +kernel), rfl⟩⟩
theorem lv_K_plan_ : LkV M_K_plan := ⟨⟨List.mem_of_getElem? (i := 1044) (by decide +kernel), rfl⟩, ⟨List.mem_of_getElem? (i := 1045) (by decide +kernel), rfl⟩⟩
theorem lv_O_clear_ : LkV M_O_clear := ⟨⟨List.mem_of_getElem? (i := 630) (by decide +kernel), rfl⟩, ⟨List.mem_of_getElem? (i := 631) (by decide +kernel), rfl⟩⟩
theorem lv_O_daysFromSky_ : LkV M_O_daysFromSky := ⟨⟨List.mem_of_getElem? (i := 1075) (by decide +kernel), rfl⟩, ⟨List.mem_of_getElem? (i := 1076) (by decide +kernel), rfl⟩⟩
theorem lv_O_daysToSky_ : LkV M_O_daysToSky := ⟨⟨List.mem_of_getElem? (i := 947) (by decide +kernel), rfl⟩, ⟨List.mem_of_getElem? (i := 948) (by decide +kernel), rfl⟩⟩
theorem lv_O_feastTooth_ : LkV M_O_feastTooth := ⟨⟨List.mem_of_getElem? (i := 739) (by decide +kernel), rfl⟩, ⟨List.mem_of_getElem? (i := 740) (by decide +kernel), rfl⟩⟩
theorem lv_O_feastsOfWheel_ : LkV M_O_feastsOfWheel := ⟨⟨List.mem_of_getElem? (i := 804) (by decide +kernel), rfl⟩, ⟨List.mem_of_getElem? (i := 805) (by decide +kernel), rfl⟩⟩
theorem lv_O_feastsOn_ : LkV M_O_feastsOn := ⟨⟨List.mem_of_getElem? (i := 826) (by decide +kernel), rfl⟩, ⟨List.mem_of_getElem? (i := 827) (by decide +kernel), rfl⟩⟩
theorem lv_O_goTurnBack_ : LkV M_O_goTurnBack := ⟨⟨List.mem_of_getElem? (i := 1175) (by decide +kernel), rfl⟩, ⟨List.mem_of_getElem? (i := 1176) (by decide +kernel), rfl⟩⟩
theorem lv_O_goTurn_ : LkV M_O_goTurn := ⟨⟨List.mem_of_getElem? (i := 1158) (by decide +kernel), rfl⟩, ⟨List.mem_of_getElem? (i := 1159) (by decide +kernel), rfl⟩⟩
theorem lv_O_goneTeeth_ : LkV M_O_goneTeeth := ⟨⟨List.mem_of_getElem? (i := 1309) (by decide +kernel), rfl⟩, ⟨List.mem_of_getElem? (i := 1310) (by decide +kernel), rfl⟩⟩
theorem lv_O_hasSky_ : LkV M_O_hasSky := ⟨⟨List.mem_of_getElem? (i := 757) (by decide +kernel), rfl⟩, ⟨List.mem_of_getElem? (i := 758) (by decide +kernel), rfl⟩⟩
theorem lv_O_isOn_ : LkV M_O_isOn := ⟨⟨List.mem_of_getElem? (i := 830) (by decide +kernel), rfl⟩, ⟨List.mem_of_getElem? (i := 831) (by decide +kernel), rfl⟩⟩
theorem lv_O_moveAll_ : LkV M_O_moveAll := ⟨⟨List.mem_of_getElem? (i := 1163) (by decide +kernel), rfl⟩, ⟨List.mem_of_getElem? (i := 44) (by decide +kernel), rfl⟩⟩
theorem lv_O_moveOne_ : LkV M_O_moveOne := ⟨⟨List.mem_of_getElem? (i := 1169) (by decide +kernel), rfl⟩, ⟨List.mem_of_getElem? (i := 45) (by decide +kernel), rfl⟩⟩
theorem lv_O_putAtFirst_ : LkV M_O_putAtFirst := ⟨⟨List.mem_of_getElem? (i := 772) (by decide +kernel), rfl⟩, ⟨List.mem_of_getElem? (i := 773) (by decide +kernel), rfl⟩⟩
theorem lv_O_putFeastTooth_ : LkV M_O_putFeastTooth := ⟨⟨List.mem_of_getElem? (i := 743) (by decide +kernel), rfl⟩, ⟨List.mem_of_getElem? (i := 744) (by decide +kernel), rfl⟩⟩
theorem lv_O_skyCount_ : LkV M_O_skyCount := ⟨⟨List.mem_of_getElem? (i := 1313) (by decide +kernel), rfl⟩, ⟨List.mem_of_getElem? (i := 1314) (by decide +kernel), rfl⟩⟩
theorem lv_O_slip_ : LkV M_O_slip := ⟨⟨List.mem_of_getElem? (i := 1235) (by decide +kernel), rfl⟩, ⟨List.mem_of_getElem? (i := 1236) (by decide +kernel), rfl⟩⟩
theorem lv_P_addImage_ : LkV M_P_addImage := ⟨⟨List.mem_of_getElem? (i := 1293) (by decide +kernel), rfl⟩, ⟨List.mem_of_getElem? (i := 1294) (by decide +kernel), rfl⟩⟩
theorem lv_P_forget_ : LkV M_P_forget := ⟨⟨List.mem_of_getElem? (i := 776) (by decide +kernel), rfl⟩, ⟨List.mem_of_getElem? (i := 777) (by decide +kernel), rfl⟩⟩
theorem lv_P_keep_ : LkV M_P_keep := ⟨⟨List.mem_of_getElem? (i := 1253) (by decide +kernel), rfl⟩, ⟨List.mem_of_getElem? (i := 1254) (by decide +kernel), rfl⟩⟩
theorem lv_P_takeImage_ : LkV M_P_takeImage := ⟨⟨List.mem_of_getElem? (i := 1301) (by decide +kernel), rfl⟩, ⟨List.mem_of_getElem? (i := 1302) (by decide +kernel), rfl⟩⟩
theorem lv_P_takeLatest_ : LkV M_P_takeLatest := ⟨⟨List.mem_of_getElem? (i := 1285) (by decide +kernel), rfl⟩, ⟨List.mem_of_getElem? (i := 1286) (by decide +kernel), rfl⟩⟩
theorem lv_R_fail_ : LkV M_R_fail := ⟨⟨List.mem_of_getElem? (i := 667) (by decide +kernel), rfl⟩, ⟨List.mem_of_getElem? (i := 7) (by decide +kernel), rfl⟩⟩
theorem lv_R_findName_ : LkV M_R_findName := ⟨⟨List.mem_of_getElem? (i := 697) (by decide +kernel), rfl⟩, ⟨List.mem_of_getElem? (i := 14) (by decide +kernel), rfl⟩⟩
theorem lv_R_isLineWord_ : LkV M_R_isLineWord := ⟨⟨List.mem_of_getElem? (i := 654) (by decide +kernel), rfl⟩, ⟨List.mem_of_getElem? (i := 6) (by decide +kernel), rfl⟩⟩
theorem lv_R_is_ : LkV M_R_is := ⟨⟨List.mem_of_getElem? (i := 671) (by decide +kernel), rfl⟩, ⟨List.mem_of_getElem? (i := 8) (by decide +kernel), rfl⟩⟩
theorem lv_R_pass_ : LkV M_R_pass := ⟨⟨List.mem_of_getElem? (i := 679) (by decide +kernel), rfl⟩, ⟨List.mem_of_getElem? (i := 10) (by decide +kernel), rfl⟩⟩
theorem lv_R_readBrass_ : LkV M_R_readBrass := ⟨⟨List.mem_of_getElem? (i := 675) (by decide +kernel), rfl⟩, ⟨List.mem_of_getElem? (i := 9) (by decide +kernel), rfl⟩⟩
theorem lv_R_readFeastWheel_ : LkV M_R_readFeastWheel := ⟨⟨List.mem_of_getElem? (i := 736) (by decide +kernel), rfl⟩, ⟨List.mem_of_getElem? (i := 19) (by decide +kernel), rfl⟩⟩
theorem lv_R_readFeast_ : LkV M_R_readFeast := ⟨⟨List.mem_of_getElem? (i := 732) (by decide +kernel), rfl⟩, ⟨List.mem_of_getElem? (i := 18) (by decide +kernel), rfl⟩⟩
theorem lv_R_readGone_ : LkV M_R_readGone := ⟨⟨List.mem_of_getElem? (i := 716) (by decide +kernel), rfl⟩, ⟨List.mem_of_getElem? (i := 16) (by decide +kernel), rfl⟩⟩
theorem lv_R_readKind_ : LkV M_R_readKind := ⟨⟨List.mem_of_getElem? (i := 701) (by decide +kernel), rfl⟩, ⟨List.mem_of_getElem? (i := 15) (by decide +kernel), rfl⟩⟩
theorem lv_R_readLine_ : LkV M_R_readLine := ⟨⟨List.mem_of_getElem? (i := 650) (by decide +kernel), rfl⟩, ⟨List.mem_of_getElem? (i := 5) (by decide +kernel), rfl⟩⟩
theorem lv_R_readName_ : LkV M_R_readName := ⟨⟨List.mem_of_getElem? (i := 720) (by decide +kernel), rfl⟩, ⟨List.mem_of_getElem? (i := 17) (by decide +kernel), rfl⟩⟩
theorem lv_R_readSeen_ : LkV M_R_readSeen := ⟨⟨List.mem_of_getElem? (i := 768) (by decide +kernel), rfl⟩, ⟨List.mem_of_getElem? (i := 23) (by decide +kernel), rfl⟩⟩
theorem lv_R_readSky_ : LkV M_R_readSky := ⟨⟨List.mem_of_getElem? (i := 754) (by decide +kernel), rfl⟩, ⟨List.mem_of_getElem? (i := 21) (by decide +kernel), rfl⟩⟩
theorem lv_R_readSuspect_ : LkV M_R_readSuspect := ⟨⟨List.mem_of_getElem? (i := 764) (by decide +kernel), rfl⟩, ⟨List.mem_of_getElem? (i := 22) (by decide +kernel), rfl⟩⟩
theorem lv_R_readWheel_ : LkV M_R_readWheel := ⟨⟨List.mem_of_getElem? (i := 689) (by decide +kernel), rfl⟩, ⟨List.mem_of_getElem? (i := 12) (by decide +kernel), rfl⟩⟩
theorem lv_R_readWhole_ : LkV M_R_readWhole := ⟨⟨List.mem_of_getElem? (i := 684) (by decide +kernel), rfl⟩, ⟨List.mem_of_getElem? (i := 11) (by decide +kernel), rfl⟩⟩
theorem lv_R_readWork_ : LkV M_R_readWork := ⟨⟨List.mem_of_getElem? (i := 748) (by decide +kernel), rfl⟩, ⟨List.mem_of_getElem? (i := 20) (by decide +kernel), rfl⟩⟩
theorem lv_R_read_ : LkV M_R_read := ⟨⟨List.mem_of_getElem? (i := 623) (by decide +kernel), rfl⟩, ⟨List.mem_of_getElem? (i := 624) (by decide +kernel), rfl⟩⟩
theorem lv_R_step_ : LkV M_R_step := ⟨⟨List.mem_of_getElem? (i := 638) (by decide +kernel), rfl⟩, ⟨List.mem_of_getElem? (i := 2) (by decide +kernel), rfl⟩⟩
theorem lv_R_takeWhole_ : LkV M_R_takeWhole := ⟨⟨List.mem_of_getElem? (i := 646) (by decide +kernel), rfl⟩, ⟨List.mem_of_getElem? (i := 4) (by decide +kernel), rfl⟩⟩
theorem lv_R_takeWord_ : LkV M_R_takeWord := ⟨⟨List.mem_of_getElem? (i := 642) (by decide +kernel), rfl⟩, ⟨List.mem_of_getElem? (i := 3) (by decide +kernel), rfl⟩⟩
theorem lv_R_tellName_ : LkV M_R_tellName := ⟨⟨List.mem_of_getElem? (i := 693) (by decide +kernel), rfl⟩, ⟨List.mem_of_getElem? (i := 13) (by decide +kernel), rfl⟩⟩
theorem lv_S_chooseDay_ : LkV M_S_chooseDay := ⟨⟨List.mem_of_getElem? (i := 1120) (by decide +kernel), rfl⟩, ⟨List.mem_of_getElem? (i := 41) (by decide +kernel), rfl⟩⟩
theorem lv_S_firstAgainst_ : LkV M_S_firstAgainst := ⟨⟨List.mem_of_getElem? (i := 1111) (by decide +kernel), rfl⟩, ⟨List.mem_of_getElem? (i := 1112) (by decide +kernel), rfl⟩⟩
theorem lv_S_forget_ : LkV M_S_forget := ⟨⟨List.mem_of_getElem? (i := 780) (by decide +kernel), rfl⟩, ⟨List.mem_of_getElem? (i := 781) (by decide +kernel), rfl⟩⟩
theorem lv_S_jerkedOn_ : LkV M_S_jerkedOn := ⟨⟨List.mem_of_getElem? (i := 1116) (by decide +kernel), rfl⟩, ⟨List.mem_of_getElem? (i := 40) (by decide +kernel), rfl⟩⟩
theorem lv_S_recordJerk_ : LkV M_S_recordJerk := ⟨⟨List.mem_of_getElem? (i := 1107) (by decide +kernel), rfl⟩, ⟨List.mem_of_getElem? (i := 39) (by decide +kernel), rfl⟩⟩
theorem lv_S_recordJerks_ : LkV M_S_recordJerks := ⟨⟨List.mem_of_getElem? (i := 1096) (by decide +kernel), rfl⟩, ⟨List.mem_of_getElem? (i := 38) (by decide +kernel), rfl⟩⟩
theorem lv_S_weigh_ : LkV M_S_weigh := ⟨⟨List.mem_of_getElem? (i := 1089) (by decide +kernel), rfl⟩, ⟨List.mem_of_getElem? (i := 1090) (by decide +kernel), rfl⟩⟩
theorem lv_Str_charAt_ : LkV M_Str_charAt := ⟨⟨List.mem_of_getElem? (i := 1676) (by decide +kernel), rfl⟩, ⟨List.mem_of_getElem? (i := 1677) (by decide +kernel), rfl⟩⟩
theorem lv_Str_coder_ : LkV M_Str_coder := ⟨⟨List.mem_of_getElem? (i := 1670) (by decide +kernel), rfl⟩, ⟨List.mem_of_getElem? (i := 1671) (by decide +kernel), rfl⟩⟩
theorem lv_Str_isLatin1_ : LkV M_Str_isLatin1 := ⟨⟨List.mem_of_getElem? (i := 1680) (by decide +kernel), rfl⟩, ⟨List.mem_of_getElem? (i := 1681) (by decide +kernel), rfl⟩⟩
theorem lv_Str_length_ : LkV M_Str_length := ⟨⟨List.mem_of_getElem? (i := 1666) (by decide +kernel), rfl⟩, ⟨List.mem_of_getElem? (i := 1667) (by decide +kernel), rfl⟩⟩
theorem lv_U_dayFrom_ : LkV M_U_dayFrom := ⟨⟨List.mem_of_getElem? (i := 938) (by decide +kernel), rfl⟩, ⟨List.mem_of_getElem? (i := 939) (by decide +kernel), rfl⟩⟩
theorem lv_U_dayOfGoing_ : LkV M_U_dayOfGoing := ⟨⟨List.mem_of_getElem? (i := 943) (by decide +kernel), rfl⟩, ⟨List.mem_of_getElem? (i := 32) (by decide +kernel), rfl⟩⟩
theorem lv_U_daysRound_ : LkV M_U_daysRound := ⟨⟨List.mem_of_getElem? (i := 896) (by decide +kernel), rfl⟩, ⟨List.mem_of_getElem? (i := 897) (by decide +kernel), rfl⟩⟩
theorem lv_U_follow_ : LkV M_U_follow := ⟨⟨List.mem_of_getElem? (i := 851) (by decide +kernel), rfl⟩, ⟨List.mem_of_getElem? (i := 852) (by decide +kernel), rfl⟩⟩
theorem lv_U_goingsUntil_ : LkV M_U_goingsUntil := ⟨⟨List.mem_of_getElem? (i := 876) (by decide +kernel), rfl⟩, ⟨List.mem_of_getElem? (i := 877) (by decide +kernel), rfl⟩⟩
theorem lv_U_jerksUntil_ : LkV M_U_jerksUntil := ⟨⟨List.mem_of_getElem? (i := 888) (by decide +kernel), rfl⟩, ⟨List.mem_of_getElem? (i := 889) (by decide +kernel), rfl⟩⟩
theorem lv_U_teethUntil_ : LkV M_U_teethUntil := ⟨⟨List.mem_of_getElem? (i := 904) (by decide +kernel), rfl⟩, ⟨List.mem_of_getElem? (i := 905) (by decide +kernel), rfl⟩⟩
theorem lv_U_toothOn_ : LkV M_U_toothOn := ⟨⟨List.mem_of_getElem? (i := 872) (by decide +kernel), rfl⟩, ⟨List.mem_of_getElem? (i := 873) (by decide +kernel), rfl⟩⟩
theorem lv_W_goesOn_ : LkV M_W_goesOn := ⟨⟨List.mem_of_getElem? (i := 1099) (by decide +kernel), rfl⟩, ⟨List.mem_of_getElem? (i := 1100) (by decide +kernel), rfl⟩⟩
theorem lv_W_hasTooth_ : LkV M_W_hasTooth := ⟨⟨List.mem_of_getElem? (i := 813) (by decide +kernel), rfl⟩, ⟨List.mem_of_getElem? (i := 814) (by decide +kernel), rfl⟩⟩
theorem lv_W_lacks_ : LkV M_W_lacks := ⟨⟨List.mem_of_getElem? (i := 723) (by decide +kernel), rfl⟩, ⟨List.mem_of_getElem? (i := 724) (by decide +kernel), rfl⟩⟩
theorem lv_W_landing_ : LkV M_W_landing := ⟨⟨List.mem_of_getElem? (i := 860) (by decide +kernel), rfl⟩, ⟨List.mem_of_getElem? (i := 861) (by decide +kernel), rfl⟩⟩
theorem lv_W_loseTooth_ : LkV M_W_loseTooth := ⟨⟨List.mem_of_getElem? (i := 727) (by decide +kernel), rfl⟩, ⟨List.mem_of_getElem? (i := 728) (by decide +kernel), rfl⟩⟩
theorem lv_W_resting_ : LkV M_W_resting := ⟨⟨List.mem_of_getElem? (i := 865) (by decide +kernel), rfl⟩, ⟨List.mem_of_getElem? (i := 866) (by decide +kernel), rfl⟩⟩
theorem lv_W_tellLike_ : LkV M_W_tellLike := ⟨⟨List.mem_of_getElem? (i := 1019) (by decide +kernel), rfl⟩, ⟨List.mem_of_getElem? (i := 1020) (by decide +kernel), rfl⟩⟩
theorem lv_W_tell_ : LkV M_W_tell := ⟨⟨List.mem_of_getElem? (i := 711) (by decide +kernel), rfl⟩, ⟨List.mem_of_getElem? (i := 712) (by decide +kernel), rfl⟩⟩
theorem lv_W_way_ : LkV M_W_way := ⟨⟨List.mem_of_getElem? (i := 856) (by decide +kernel), rfl⟩, ⟨List.mem_of_getElem? (i := 857) (by decide +kernel), rfl⟩⟩
theorem lv_m_aTurnBack_ : LkV M_m_aTurnBack := ⟨⟨List.mem_of_getElem? (i := 2093) (by decide +kernel), rfl⟩, ⟨List.mem_of_getElem? (i := 111) (by decide +kernel), rfl⟩⟩
theorem lv_m_aTurn_ : LkV M_m_aTurn := ⟨⟨List.mem_of_getElem? (i := 1941) (by decide +kernel), rfl⟩, ⟨List.mem_of_getElem? (i := 92) (by decide +kernel), rfl⟩⟩
theorem lv_m_agree_ : LkV M_m_agree := ⟨⟨List.mem_of_getElem? (i := 2024) (by decide +kernel), rfl⟩, ⟨List.mem_of_getElem? (i := 2025) (by decide +kernel), rfl⟩⟩
theorem lv_m_argues_ : LkV M_m_argues := ⟨⟨List.mem_of_getElem? (i := 2085) (by decide +kernel), rfl⟩, ⟨List.mem_of_getElem? (i := 109) (by decide +kernel), rfl⟩⟩
theorem lv_m_back_ : LkV M_m_back := ⟨⟨List.mem_of_getElem? (i := 2200) (by decide +kernel), rfl⟩, ⟨List.mem_of_getElem? (i := 2201) (by decide +kernel), rfl⟩⟩
theorem lv_m_becomes_ : LkV M_m_becomes := ⟨⟨List.mem_of_getElem? (i := 2169) (by decide +kernel), rfl⟩, ⟨List.mem_of_getElem? (i := 120) (by decide +kernel), rfl⟩⟩
theorem lv_m_bestOf_ : LkV M_m_bestOf := ⟨⟨List.mem_of_getElem? (i := 2097) (by decide +kernel), rfl⟩, ⟨List.mem_of_getElem? (i := 112) (by decide +kernel), rfl⟩⟩
theorem lv_m_byFor_ : LkV M_m_byFor := ⟨⟨List.mem_of_getElem? (i := 1976) (by decide +kernel), rfl⟩, ⟨List.mem_of_getElem? (i := 1977) (by decide +kernel), rfl⟩⟩
theorem lv_m_byIn_ : LkV M_m_byIn := ⟨⟨List.mem_of_getElem? (i := 1984) (by decide +kernel), rfl⟩, ⟨List.mem_of_getElem? (i := 1985) (by decide +kernel), rfl⟩⟩
theorem lv_m_byteAt_ : LkV M_m_byteAt := ⟨⟨List.mem_of_getElem? (i := 1640) (by decide +kernel), rfl⟩, ⟨List.mem_of_getElem? (i := 54) (by decide +kernel), rfl⟩⟩
theorem lv_m_comesRound_ : LkV M_m_comesRound := ⟨⟨List.mem_of_getElem? (i := 1920) (by decide +kernel), rfl⟩, ⟨List.mem_of_getElem? (i := 1921) (by decide +kernel), rfl⟩⟩
theorem lv_m_denied_ : LkV M_m_denied := ⟨⟨List.mem_of_getElem? (i := 2185) (by decide +kernel), rfl⟩, ⟨List.mem_of_getElem? (i := 121) (by decide +kernel), rfl⟩⟩
theorem lv_m_drift_ : LkV M_m_drift := ⟨⟨List.mem_of_getElem? (i := 2036) (by decide +kernel), rfl⟩, ⟨List.mem_of_getElem? (i := 2037) (by decide +kernel), rfl⟩⟩
theorem lv_m_eats_ : LkV M_m_eats := ⟨⟨List.mem_of_getElem? (i := 1807) (by decide +kernel), rfl⟩, ⟨List.mem_of_getElem? (i := 72) (by decide +kernel), rfl⟩⟩
theorem lv_m_fault_ : LkV M_m_fault := ⟨⟨List.mem_of_getElem? (i := 1843) (by decide +kernel), rfl⟩, ⟨List.mem_of_getElem? (i := 1844) (by decide +kernel), rfl⟩⟩
theorem lv_m_feastsBy_ : LkV M_m_feastsBy := ⟨⟨List.mem_of_getElem? (i := 2089) (by decide +kernel), rfl⟩, ⟨List.mem_of_getElem? (i := 110) (by decide +kernel), rfl⟩⟩
theorem lv_m_feastsOf_ : LkV M_m_feastsOf := ⟨⟨List.mem_of_getElem? (i := 1860) (by decide +kernel), rfl⟩, ⟨List.mem_of_getElem? (i := 80) (by decide +kernel), rfl⟩⟩
theorem lv_m_feed_ : LkV M_m_feed := ⟨⟨List.mem_of_getElem? (i := 1514) (by decide +kernel), rfl⟩, ⟨List.mem_of_getElem? (i := 1515) (by decide +kernel), rfl⟩⟩
theorem lv_m_fitAt_ : LkV M_m_fitAt := ⟨⟨List.mem_of_getElem? (i := 2060) (by decide +kernel), rfl⟩, ⟨List.mem_of_getElem? (i := 2061) (by decide +kernel), rfl⟩⟩
theorem lv_m_fits_ : LkV M_m_fits := ⟨⟨List.mem_of_getElem? (i := 2040) (by decide +kernel), rfl⟩, ⟨List.mem_of_getElem? (i := 2041) (by decide +kernel), rfl⟩⟩
theorem lv_m_fitting_ : LkV M_m_fitting := ⟨⟨List.mem_of_getElem? (i := 2049) (by decide +kernel), rfl⟩, ⟨List.mem_of_getElem? (i := 105) (by decide +kernel), rfl⟩⟩
theorem lv_m_flaw_ : LkV M_m_flaw := ⟨⟨List.mem_of_getElem? (i := 1719) (by decide +kernel), rfl⟩, ⟨List.mem_of_getElem? (i := 59) (by decide +kernel), rfl⟩⟩
theorem lv_m_fraction_ : LkV M_m_fraction := ⟨⟨List.mem_of_getElem? (i := 2125) (by decide +kernel), rfl⟩, ⟨List.mem_of_getElem? (i := 116) (by decide +kernel), rfl⟩⟩
theorem lv_m_goesOn_ : LkV M_m_goesOn := ⟨⟨List.mem_of_getElem? (i := 1636) (by decide +kernel), rfl⟩, ⟨List.mem_of_getElem? (i := 53) (by decide +kernel), rfl⟩⟩
theorem lv_m_goesOnce_ : LkV M_m_goesOnce := ⟨⟨List.mem_of_getElem? (i := 1905) (by decide +kernel), rfl⟩, ⟨List.mem_of_getElem? (i := 87) (by decide +kernel), rfl⟩⟩
theorem lv_m_goes_ : LkV M_m_goes := ⟨⟨List.mem_of_getElem? (i := 1913) (by decide +kernel), rfl⟩, ⟨List.mem_of_getElem? (i := 89) (by decide +kernel), rfl⟩⟩
theorem lv_m_goings_ : LkV M_m_goings := ⟨⟨List.mem_of_getElem? (i := 1897) (by decide +kernel), rfl⟩, ⟨List.mem_of_getElem? (i := 85) (by decide +kernel), rfl⟩⟩
theorem lv_m_good_ : LkV M_m_good := ⟨⟨List.mem_of_getElem? (i := 1840) (by decide +kernel), rfl⟩, ⟨List.mem_of_getElem? (i := 78) (by decide +kernel), rfl⟩⟩
theorem lv_m_granted_ : LkV M_m_granted := ⟨⟨List.mem_of_getElem? (i := 2189) (by decide +kernel), rfl⟩, ⟨List.mem_of_getElem? (i := 122) (by decide +kernel), rfl⟩⟩
theorem lv_m_idle_ : LkV M_m_idle := ⟨⟨List.mem_of_getElem? (i := 1924) (by decide +kernel), rfl⟩, ⟨List.mem_of_getElem? (i := 1925) (by decide +kernel), rfl⟩⟩
theorem lv_m_image_ : LkV M_m_image := ⟨⟨List.mem_of_getElem? (i := 2196) (by decide +kernel), rfl⟩, ⟨List.mem_of_getElem? (i := 2197) (by decide +kernel), rfl⟩⟩
theorem lv_m_inTime_ : LkV M_m_inTime := ⟨⟨List.mem_of_getElem? (i := 2020) (by decide +kernel), rfl⟩, ⟨List.mem_of_getElem? (i := 2021) (by decide +kernel), rfl⟩⟩
theorem lv_m_isFeast_ : LkV M_m_isFeast := ⟨⟨List.mem_of_getElem? (i := 1933) (by decide +kernel), rfl⟩, ⟨List.mem_of_getElem? (i := 90) (by decide +kernel), rfl⟩⟩
theorem lv_m_isGoing_ : LkV M_m_isGoing := ⟨⟨List.mem_of_getElem? (i := 1945) (by decide +kernel), rfl⟩, ⟨List.mem_of_getElem? (i := 93) (by decide +kernel), rfl⟩⟩
theorem lv_m_isGone_ : LkV M_m_isGone := ⟨⟨List.mem_of_getElem? (i := 1863) (by decide +kernel), rfl⟩, ⟨List.mem_of_getElem? (i := 1864) (by decide +kernel), rfl⟩⟩
theorem lv_m_isName_ : LkV M_m_isName := ⟨⟨List.mem_of_getElem? (i := 1757) (by decide +kernel), rfl⟩, ⟨List.mem_of_getElem? (i := 67) (by decide +kernel), rfl⟩⟩
theorem lv_m_isOf_ : LkV M_m_isOf := ⟨⟨List.mem_of_getElem? (i := 1969) (by decide +kernel), rfl⟩, ⟨List.mem_of_getElem? (i := 94) (by decide +kernel), rfl⟩⟩
theorem lv_m_isOn_ : LkV M_m_isOn := ⟨⟨List.mem_of_getElem? (i := 1880) (by decide +kernel), rfl⟩, ⟨List.mem_of_getElem? (i := 83) (by decide +kernel), rfl⟩⟩
theorem lv_m_isWheel_ : LkV M_m_isWheel := ⟨⟨List.mem_of_getElem? (i := 1856) (by decide +kernel), rfl⟩, ⟨List.mem_of_getElem? (i := 79) (by decide +kernel), rfl⟩⟩
theorem lv_m_isWord_ : LkV M_m_isWord := ⟨⟨List.mem_of_getElem? (i := 1660) (by decide +kernel), rfl⟩, ⟨List.mem_of_getElem? (i := 57) (by decide +kernel), rfl⟩⟩
theorem lv_m_jerkMean_ : LkV M_m_jerkMean := ⟨⟨List.mem_of_getElem? (i := 2131) (by decide +kernel), rfl⟩, ⟨List.mem_of_getElem? (i := 2132) (by decide +kernel), rfl⟩⟩
theorem lv_m_jerks_ : LkV M_m_jerks := ⟨⟨List.mem_of_getElem? (i := 1916) (by decide +kernel), rfl⟩, ⟨List.mem_of_getElem? (i := 1917) (by decide +kernel), rfl⟩⟩
theorem lv_m_judge_ : LkV M_m_judge := ⟨⟨List.mem_of_getElem? (i := 2076) (by decide +kernel), rfl⟩, ⟨List.mem_of_getElem? (i := 2077) (by decide +kernel), rfl⟩⟩
theorem lv_m_knownOne_ : LkV M_m_knownOne := ⟨⟨List.mem_of_getElem? (i := 1787) (by decide +kernel), rfl⟩, ⟨List.mem_of_getElem? (i := 70) (by decide +kernel), rfl⟩⟩
theorem lv_m_leadsTo_ : LkV M_m_leadsTo := ⟨⟨List.mem_of_getElem? (i := 1973) (by decide +kernel), rfl⟩, ⟨List.mem_of_getElem? (i := 95) (by decide +kernel), rfl⟩⟩
theorem lv_m_led_ : LkV M_m_led := ⟨⟨List.mem_of_getElem? (i := 2204) (by decide +kernel), rfl⟩, ⟨List.mem_of_getElem? (i := 2205) (by decide +kernel), rfl⟩⟩
theorem lv_m_likely_ : LkV M_m_likely := ⟨⟨List.mem_of_getElem? (i := 2104) (by decide +kernel), rfl⟩, ⟨List.mem_of_getElem? (i := 2105) (by decide +kernel), rfl⟩⟩
theorem lv_m_lineAt_ : LkV M_m_lineAt := ⟨⟨List.mem_of_getElem? (i := 2016) (by decide +kernel), rfl⟩, ⟨List.mem_of_getElem? (i := 2017) (by decide +kernel), rfl⟩⟩
theorem lv_m_lineBegins_ : LkV M_m_lineBegins := ⟨⟨List.mem_of_getElem? (i := 1749) (by decide +kernel), rfl⟩, ⟨List.mem_of_getElem? (i := 65) (by decide +kernel), rfl⟩⟩
theorem lv_m_lineWorth_ : LkV M_m_lineWorth := ⟨⟨List.mem_of_getElem? (i := 1992) (by decide +kernel), rfl⟩, ⟨List.mem_of_getElem? (i := 1993) (by decide +kernel), rfl⟩⟩
theorem lv_m_lines_ : LkV M_m_lines := ⟨⟨List.mem_of_getElem? (i := 1997) (by decide +kernel), rfl⟩, ⟨List.mem_of_getElem? (i := 97) (by decide +kernel), rfl⟩⟩
theorem lv_m_longestGap_ : LkV M_m_longestGap := ⟨⟨List.mem_of_getElem? (i := 1960) (by decide +kernel), rfl⟩, ⟨List.mem_of_getElem? (i := 1961) (by decide +kernel), rfl⟩⟩
theorem lv_m_lookLeaves_ : LkV M_m_lookLeaves := ⟨⟨List.mem_of_getElem? (i := 2072) (by decide +kernel), rfl⟩, ⟨List.mem_of_getElem? (i := 2073) (by decide +kernel), rfl⟩⟩
theorem lv_m_look_ : LkV M_m_look := ⟨⟨List.mem_of_getElem? (i := 2064) (by decide +kernel), rfl⟩, ⟨List.mem_of_getElem? (i := 2065) (by decide +kernel), rfl⟩⟩
theorem lv_m_looks_ : LkV M_m_looks := ⟨⟨List.mem_of_getElem? (i := 2069) (by decide +kernel), rfl⟩, ⟨List.mem_of_getElem? (i := 108) (by decide +kernel), rfl⟩⟩
theorem lv_m_meet_ : LkV M_m_meet := ⟨⟨List.mem_of_getElem? (i := 1952) (by decide +kernel), rfl⟩, ⟨List.mem_of_getElem? (i := 1953) (by decide +kernel), rfl⟩⟩
theorem lv_m_moves_ : LkV M_m_moves := ⟨⟨List.mem_of_getElem? (i := 2100) (by decide +kernel), rfl⟩, ⟨List.mem_of_getElem? (i := 2101) (by decide +kernel), rfl⟩⟩
theorem lv_m_names_ : LkV M_m_names := ⟨⟨List.mem_of_getElem? (i := 1779) (by decide +kernel), rfl⟩, ⟨List.mem_of_getElem? (i := 68) (by decide +kernel), rfl⟩⟩
theorem lv_m_needs_ : LkV M_m_needs := ⟨⟨List.mem_of_getElem? (i := 1728) (by decide +kernel), rfl⟩, ⟨List.mem_of_getElem? (i := 61) (by decide +kernel), rfl⟩⟩
theorem lv_m_nextOf_ : LkV M_m_nextOf := ⟨⟨List.mem_of_getElem? (i := 1937) (by decide +kernel), rfl⟩, ⟨List.mem_of_getElem? (i := 91) (by decide +kernel), rfl⟩⟩
theorem lv_m_nextOrder_ : LkV M_m_nextOrder := ⟨⟨List.mem_of_getElem? (i := 2009) (by decide +kernel), rfl⟩, ⟨List.mem_of_getElem? (i := 100) (by decide +kernel), rfl⟩⟩
theorem lv_m_next_ : LkV M_m_next := ⟨⟨List.mem_of_getElem? (i := 1928) (by decide +kernel), rfl⟩, ⟨List.mem_of_getElem? (i := 1929) (by decide +kernel), rfl⟩⟩
theorem lv_m_now_ : LkV M_m_now := ⟨⟨List.mem_of_getElem? (i := 1867) (by decide +kernel), rfl⟩, ⟨List.mem_of_getElem? (i := 1868) (by decide +kernel), rfl⟩⟩
theorem lv_m_off_ : LkV M_m_off := ⟨⟨List.mem_of_getElem? (i := 2033) (by decide +kernel), rfl⟩, ⟨List.mem_of_getElem? (i := 103) (by decide +kernel), rfl⟩⟩
theorem lv_m_often_ : LkV M_m_often := ⟨⟨List.mem_of_getElem? (i := 1948) (by decide +kernel), rfl⟩, ⟨List.mem_of_getElem? (i := 1949) (by decide +kernel), rfl⟩⟩
theorem lv_m_oil_ : LkV M_m_oil := ⟨⟨List.mem_of_getElem? (i := 2176) (by decide +kernel), rfl⟩, ⟨List.mem_of_getElem? (i := 2177) (by decide +kernel), rfl⟩⟩
theorem lv_m_onNow_ : LkV M_m_onNow := ⟨⟨List.mem_of_getElem? (i := 1872) (by decide +kernel), rfl⟩, ⟨List.mem_of_getElem? (i := 81) (by decide +kernel), rfl⟩⟩
theorem lv_m_orrery_ : LkV M_m_orrery := ⟨⟨List.mem_of_getElem? (i := 1518) (by decide +kernel), rfl⟩, ⟨List.mem_of_getElem? (i := 1519) (by decide +kernel), rfl⟩⟩
theorem lv_m_paces_ : LkV M_m_paces := ⟨⟨List.mem_of_getElem? (i := 1981) (by decide +kernel), rfl⟩, ⟨List.mem_of_getElem? (i := 96) (by decide +kernel), rfl⟩⟩
theorem lv_m_part_ : LkV M_m_part := ⟨⟨List.mem_of_getElem? (i := 2117) (by decide +kernel), rfl⟩, ⟨List.mem_of_getElem? (i := 115) (by decide +kernel), rfl⟩⟩
theorem lv_m_readAll_ : LkV M_m_readAll := ⟨⟨List.mem_of_getElem? (i := 1651) (by decide +kernel), rfl⟩, ⟨List.mem_of_getElem? (i := 55) (by decide +kernel), rfl⟩⟩
theorem lv_m_readBrass_ : LkV M_m_readBrass := ⟨⟨List.mem_of_getElem? (i := 1715) (by decide +kernel), rfl⟩, ⟨List.mem_of_getElem? (i := 58) (by decide +kernel), rfl⟩⟩
theorem lv_m_readFeast_ : LkV M_m_readFeast := ⟨⟨List.mem_of_getElem? (i := 1800) (by decide +kernel), rfl⟩, ⟨List.mem_of_getElem? (i := 71) (by decide +kernel), rfl⟩⟩
theorem lv_m_readFresh_ : LkV M_m_readFresh := ⟨⟨List.mem_of_getElem? (i := 1753) (by decide +kernel), rfl⟩, ⟨List.mem_of_getElem? (i := 66) (by decide +kernel), rfl⟩⟩
theorem lv_m_readGone_ : LkV M_m_readGone := ⟨⟨List.mem_of_getElem? (i := 1783) (by decide +kernel), rfl⟩, ⟨List.mem_of_getElem? (i := 69) (by decide +kernel), rfl⟩⟩
theorem lv_m_readKnown_ : LkV M_m_readKnown := ⟨⟨List.mem_of_getElem? (i := 1817) (by decide +kernel), rfl⟩, ⟨List.mem_of_getElem? (i := 74) (by decide +kernel), rfl⟩⟩
theorem lv_m_readLine_ : LkV M_m_readLine := ⟨⟨List.mem_of_getElem? (i := 1655) (by decide +kernel), rfl⟩, ⟨List.mem_of_getElem? (i := 56) (by decide +kernel), rfl⟩⟩
theorem lv_m_readPart_ : LkV M_m_readPart := ⟨⟨List.mem_of_getElem? (i := 1724) (by decide +kernel), rfl⟩, ⟨List.mem_of_getElem? (i := 60) (by decide +kernel), rfl⟩⟩
theorem lv_m_readSeen_ : LkV M_m_readSeen := ⟨⟨List.mem_of_getElem? (i := 1831) (by decide +kernel), rfl⟩, ⟨List.mem_of_getElem? (i := 77) (by decide +kernel), rfl⟩⟩
theorem lv_m_readSky_ : LkV M_m_readSky := ⟨⟨List.mem_of_getElem? (i := 1821) (by decide +kernel), rfl⟩, ⟨List.mem_of_getElem? (i := 75) (by decide +kernel), rfl⟩⟩
theorem lv_m_readSuspect_ : LkV M_m_readSuspect := ⟨⟨List.mem_of_getElem? (i := 1827) (by decide +kernel), rfl⟩, ⟨List.mem_of_getElem? (i := 76) (by decide +kernel), rfl⟩⟩
theorem lv_m_readWheel_ : LkV M_m_readWheel := ⟨⟨List.mem_of_getElem? (i := 1745) (by decide +kernel), rfl⟩, ⟨List.mem_of_getElem? (i := 64) (by decide +kernel), rfl⟩⟩
theorem lv_m_readWhole_ : LkV M_m_readWhole := ⟨⟨List.mem_of_getElem? (i := 1732) (by decide +kernel), rfl⟩, ⟨List.mem_of_getElem? (i := 62) (by decide +kernel), rfl⟩⟩
theorem lv_m_readWork_ : LkV M_m_readWork := ⟨⟨List.mem_of_getElem? (i := 1811) (by decide +kernel), rfl⟩, ⟨List.mem_of_getElem? (i := 73) (by decide +kernel), rfl⟩⟩
theorem lv_m_refused_ : LkV M_m_refused := ⟨⟨List.mem_of_getElem? (i := 1523) (by decide +kernel), rfl⟩, ⟨List.mem_of_getElem? (i := 52) (by decide +kernel), rfl⟩⟩
theorem lv_m_refusesDays_ : LkV M_m_refusesDays := ⟨⟨List.mem_of_getElem? (i := 1893) (by decide +kernel), rfl⟩, ⟨List.mem_of_getElem? (i := 84) (by decide +kernel), rfl⟩⟩
theorem lv_m_refusesSeed_ : LkV M_m_refusesSeed := ⟨⟨List.mem_of_getElem? (i := 2140) (by decide +kernel), rfl⟩, ⟨List.mem_of_getElem? (i := 117) (by decide +kernel), rfl⟩⟩
theorem lv_m_refusesSky_ : LkV M_m_refusesSky := ⟨⟨List.mem_of_getElem? (i := 2029) (by decide +kernel), rfl⟩, ⟨List.mem_of_getElem? (i := 102) (by decide +kernel), rfl⟩⟩
theorem lv_m_refusesSuspect_ : LkV M_m_refusesSuspect := ⟨⟨List.mem_of_getElem? (i := 2045) (by decide +kernel), rfl⟩, ⟨List.mem_of_getElem? (i := 104) (by decide +kernel), rfl⟩⟩
theorem lv_m_remembers_ : LkV M_m_remembers := ⟨⟨List.mem_of_getElem? (i := 2165) (by decide +kernel), rfl⟩, ⟨List.mem_of_getElem? (i := 119) (by decide +kernel), rfl⟩⟩
theorem lv_m_replays_ : LkV M_m_replays := ⟨⟨List.mem_of_getElem? (i := 2057) (by decide +kernel), rfl⟩, ⟨List.mem_of_getElem? (i := 107) (by decide +kernel), rfl⟩⟩
theorem lv_m_setFor_ : LkV M_m_setFor := ⟨⟨List.mem_of_getElem? (i := 1964) (by decide +kernel), rfl⟩, ⟨List.mem_of_getElem? (i := 1965) (by decide +kernel), rfl⟩⟩
theorem lv_m_set_ : LkV M_m_set := ⟨⟨List.mem_of_getElem? (i := 2180) (by decide +kernel), rfl⟩, ⟨List.mem_of_getElem? (i := 2181) (by decide +kernel), rfl⟩⟩
theorem lv_m_settings_ : LkV M_m_settings := ⟨⟨List.mem_of_getElem? (i := 1988) (by decide +kernel), rfl⟩, ⟨List.mem_of_getElem? (i := 1989) (by decide +kernel), rfl⟩⟩
theorem lv_m_size_ : LkV M_m_size := ⟨⟨List.mem_of_getElem? (i := 2208) (by decide +kernel), rfl⟩, ⟨List.mem_of_getElem? (i := 2209) (by decide +kernel), rfl⟩⟩
theorem lv_m_slips1_ : LkV M_m_slips1 := ⟨⟨List.mem_of_getElem? (i := 2113) (by decide +kernel), rfl⟩, ⟨List.mem_of_getElem? (i := 114) (by decide +kernel), rfl⟩⟩
theorem lv_m_slipsBy_ : LkV M_m_slipsBy := ⟨⟨List.mem_of_getElem? (i := 2109) (by decide +kernel), rfl⟩, ⟨List.mem_of_getElem? (i := 113) (by decide +kernel), rfl⟩⟩
theorem lv_m_slips_ : LkV M_m_slips := ⟨⟨List.mem_of_getElem? (i := 2155) (by decide +kernel), rfl⟩, ⟨List.mem_of_getElem? (i := 2156) (by decide +kernel), rfl⟩⟩
theorem lv_m_soonest_ : LkV M_m_soonest := ⟨⟨List.mem_of_getElem? (i := 1956) (by decide +kernel), rfl⟩, ⟨List.mem_of_getElem? (i := 1957) (by decide +kernel), rfl⟩⟩
theorem lv_m_swaps_ : LkV M_m_swaps := ⟨⟨List.mem_of_getElem? (i := 2013) (by decide +kernel), rfl⟩, ⟨List.mem_of_getElem? (i := 101) (by decide +kernel), rfl⟩⟩
theorem lv_m_thrown_ : LkV M_m_thrown := ⟨⟨List.mem_of_getElem? (i := 1510) (by decide +kernel), rfl⟩, ⟨List.mem_of_getElem? (i := 1511) (by decide +kernel), rfl⟩⟩
theorem lv_m_timely_ : LkV M_m_timely := ⟨⟨List.mem_of_getElem? (i := 2001) (by decide +kernel), rfl⟩, ⟨List.mem_of_getElem? (i := 98) (by decide +kernel), rfl⟩⟩
theorem lv_m_toothBehind_ : LkV M_m_toothBehind := ⟨⟨List.mem_of_getElem? (i := 1901) (by decide +kernel), rfl⟩, ⟨List.mem_of_getElem? (i := 86) (by decide +kernel), rfl⟩⟩
theorem lv_m_toothIn_ : LkV M_m_toothIn := ⟨⟨List.mem_of_getElem? (i := 1887) (by decide +kernel), rfl⟩, ⟨List.mem_of_getElem? (i := 1888) (by decide +kernel), rfl⟩⟩
theorem lv_m_trouble_ : LkV M_m_trouble := ⟨⟨List.mem_of_getElem? (i := 2212) (by decide +kernel), rfl⟩, ⟨List.mem_of_getElem? (i := 2213) (by decide +kernel), rfl⟩⟩
theorem lv_m_turnBack_ : LkV M_m_turnBack := ⟨⟨List.mem_of_getElem? (i := 2172) (by decide +kernel), rfl⟩, ⟨List.mem_of_getElem? (i := 2173) (by decide +kernel), rfl⟩⟩
theorem lv_m_turn_ : LkV M_m_turn := ⟨⟨List.mem_of_getElem? (i := 2159) (by decide +kernel), rfl⟩, ⟨List.mem_of_getElem? (i := 2160) (by decide +kernel), rfl⟩⟩
theorem lv_m_undo_ : LkV M_m_undo := ⟨⟨List.mem_of_getElem? (i := 2192) (by decide +kernel), rfl⟩, ⟨List.mem_of_getElem? (i := 2193) (by decide +kernel), rfl⟩⟩
theorem lv_m_value_ : LkV M_m_value := ⟨⟨List.mem_of_getElem? (i := 2080) (by decide +kernel), rfl⟩, ⟨List.mem_of_getElem? (i := 2081) (by decide +kernel), rfl⟩⟩
theorem lv_m_way_ : LkV M_m_way := ⟨⟨List.mem_of_getElem? (i := 1909) (by decide +kernel), rfl⟩, ⟨List.mem_of_getElem? (i := 88) (by decide +kernel), rfl⟩⟩
theorem lv_m_wheel_ : LkV M_m_wheel := ⟨⟨List.mem_of_getElem? (i := 1851) (by decide +kernel), rfl⟩, ⟨List.mem_of_getElem? (i := 1852) (by decide +kernel), rfl⟩⟩
theorem lv_m_where_ : LkV M_m_where := ⟨⟨List.mem_of_getElem? (i := 1847) (by decide +kernel), rfl⟩, ⟨List.mem_of_getElem? (i := 1848) (by decide +kernel), rfl⟩⟩
theorem lv_m_wholeAtHand_ : LkV M_m_wholeAtHand := ⟨⟨List.mem_of_getElem? (i := 1736) (by decide +kernel), rfl⟩, ⟨List.mem_of_getElem? (i := 63) (by decide +kernel), rfl⟩⟩
theorem lv_m_work_ : LkV M_m_work := ⟨⟨List.mem_of_getElem? (i := 1883) (by decide +kernel), rfl⟩, ⟨List.mem_of_getElem? (i := 1884) (by decide +kernel), rfl⟩⟩
theorem lv_m_works_ : LkV M_m_works := ⟨⟨List.mem_of_getElem? (i := 1876) (by decide +kernel), rfl⟩, ⟨List.mem_of_getElem? (i := 82) (by decide +kernel), rfl⟩⟩
theorem lv_m_worthOf_ : LkV M_m_worthOf := ⟨⟨List.mem_of_getElem? (i := 2005) (by decide +kernel), rfl⟩, ⟨List.mem_of_getElem? (i := 99) (by decide +kernel), rfl⟩⟩
theorem lv_m_wrong_ : LkV M_m_wrong := ⟨⟨List.mem_of_getElem? (i := 2053) (by decide +kernel), rfl⟩, ⟨List.mem_of_getElem? (i := 106) (by decide +kernel), rfl⟩⟩
theorem lv_m_yearFeasts_ : LkV M_m_yearFeasts := ⟨⟨List.mem_of_getElem? (i := 2151) (by decide +kernel), rfl⟩, ⟨List.mem_of_getElem? (i := 2152) (by decide +kernel), rfl⟩⟩
theorem lv_m_yearsAll_ : LkV M_m_yearsAll := ⟨⟨List.mem_of_getElem? (i := 2145) (by decide +kernel), rfl⟩, ⟨List.mem_of_getElem? (i := 118) (by decide +kernel), rfl⟩⟩
theorem lv_m_years_ : LkV M_m_years := ⟨⟨List.mem_of_getElem? (i := 2135) (by decide +kernel), rfl⟩, ⟨List.mem_of_getElem? (i := 2136) (by decide +kernel), rfl⟩⟩
theorem lv_n_find_ : LkV M_n_find := ⟨⟨List.mem_of_getElem? (i := 1767) (by decide +kernel), rfl⟩, ⟨List.mem_of_getElem? (i := 1768) (by decide +kernel), rfl⟩⟩
theorem lv_n_isGone_ : LkV M_n_isGone := ⟨⟨List.mem_of_getElem? (i := 1794) (by decide +kernel), rfl⟩, ⟨List.mem_of_getElem? (i := 1795) (by decide +kernel), rfl⟩⟩
theorem lv_n_isSeen_ : LkV M_n_isSeen := ⟨⟨List.mem_of_getElem? (i := 1835) (by decide +kernel), rfl⟩, ⟨List.mem_of_getElem? (i := 1836) (by decide +kernel), rfl⟩⟩
theorem lv_n_manyGone_ : LkV M_n_manyGone := ⟨⟨List.mem_of_getElem? (i := 1790) (by decide +kernel), rfl⟩, ⟨List.mem_of_getElem? (i := 1791) (by decide +kernel), rfl⟩⟩
theorem mk_Str_335 : Lk (.methodLink "java/lang/String" 335 (mY M_Str_coder)) := ⟨List.mem_of_getElem? (i := 1669) (by decide +kernel), rfl⟩
theorem mk_Str_492 : Lk (.methodLink "java/lang/String" 492 (mY M_Str_isLatin1)) := ⟨List.mem_of_getElem? (i := 1679) (by decide +kernel), rfl⟩
theorem mk_m_74 : Lk (.methodLink "BrassYearModel" 74 (mY M_Str_length)) := ⟨List.mem_of_getElem? (i := 1665) (by decide +kernel), rfl⟩
theorem mk_m_82 : Lk (.methodLink "BrassYearModel" 82 (mY M_Str_charAt)) := ⟨List.mem_of_getElem? (i := 1675) (by decide +kernel), rfl⟩
theorem ml_B_102 : MLk "BrassYear" 102 (mY M_P_forget) := Or.inl ⟨List.mem_of_getElem? (i := 775) (by decide +kernel), rfl⟩
theorem ml_B_105 : MLk "BrassYear" 105 (mY M_S_forget) := Or.inl ⟨List.mem_of_getElem? (i := 779) (by decide +kernel), rfl⟩
theorem ml_B_109 : MLk "BrassYear" 109 (mY M_B_grant) := Or.inl ⟨List.mem_of_getElem? (i := 783) (by decide +kernel), rfl⟩
theorem ml_B_118 : MLk "BrassYear" 118 (mY M_B_hasWheel) := Or.inl ⟨List.mem_of_getElem? (i := 799) (by decide +kernel), rfl⟩
theorem ml_B_140 : MLk "BrassYear" 140 (mY M_O_feastsOfWheel) := Or.inl ⟨List.mem_of_getElem? (i := 803) (by decide +kernel), rfl⟩
theorem ml_B_143 : MLk "BrassYear" 143 (mY M_W_hasTooth) := Or.inl ⟨List.mem_of_getElem? (i := 812) (by decide +kernel), rfl⟩
theorem ml_B_146 : MLk "BrassYear" 146 (mY M_W_lacks) := Or.inl ⟨List.mem_of_getElem? (i := 816) (by decide +kernel), rfl⟩
theorem ml_B_149 : MLk "BrassYear" 149 (mY M_B_hasOrrery) := Or.inl ⟨List.mem_of_getElem? (i := 821) (by decide +kernel), rfl⟩
theorem ml_B_15 : MLk "BrassYear" 15 (mY M_R_init) := Or.inr ⟨"BrassYear", ⟨List.mem_of_getElem? (i := 158) (by decide +kernel), rfl⟩⟩
theorem ml_B_153 : MLk "BrassYear" 153 (mY M_O_feastsOn) := Or.inl ⟨List.mem_of_getElem? (i := 825) (by decide +kernel), rfl⟩
theorem ml_B_170 : MLk "BrassYear" 170 (mY M_B_courseOf) := Or.inl ⟨List.mem_of_getElem? (i := 842) (by decide +kernel), rfl⟩
theorem ml_B_174 : MLk "BrassYear" 174 (mY M_U_toothOn) := Or.inl ⟨List.mem_of_getElem? (i := 871) (by decide +kernel), rfl⟩
theorem ml_B_179 : MLk "BrassYear" 179 (mY M_U_jerksUntil) := Or.inl ⟨List.mem_of_getElem? (i := 887) (by decide +kernel), rfl⟩
theorem ml_B_182 : MLk "BrassYear" 182 (mY M_U_daysRound) := Or.inl ⟨List.mem_of_getElem? (i := 895) (by decide +kernel), rfl⟩
theorem ml_B_186 : MLk "BrassYear" 186 (mY M_U_teethUntil) := Or.inl ⟨List.mem_of_getElem? (i := 903) (by decide +kernel), rfl⟩
theorem ml_B_189 : MLk "BrassYear" 189 (mY M_B_hasFeast) := Or.inl ⟨List.mem_of_getElem? (i := 911) (by decide +kernel), rfl⟩
theorem ml_B_192 : MLk "BrassYear" 192 (mY M_B_daysToCome) := Or.inl ⟨List.mem_of_getElem? (i := 915) (by decide +kernel), rfl⟩
theorem ml_B_196 : MLk "BrassYear" 196 (mY M_C_feastFrom) := Or.inl ⟨List.mem_of_getElem? (i := 924) (by decide +kernel), rfl⟩
theorem ml_B_200 : MLk "BrassYear" 200 (mY M_C_feastsUntil) := Or.inl ⟨List.mem_of_getElem? (i := 955) (by decide +kernel), rfl⟩
theorem ml_B_204 : MLk "BrassYear" 204 (mY M_C_meetingFrom) := Or.inl ⟨List.mem_of_getElem? (i := 964) (by decide +kernel), rfl⟩
theorem ml_B_207 : MLk "BrassYear" 207 (mY M_C_soonestFeast) := Or.inl ⟨List.mem_of_getElem? (i := 972) (by decide +kernel), rfl⟩
theorem ml_B_210 : MLk "BrassYear" 210 (mY M_C_widestGap) := Or.inl ⟨List.mem_of_getElem? (i := 980) (by decide +kernel), rfl⟩
theorem ml_B_213 : MLk "BrassYear" 213 (mY M_B_hasWheelOfFeast) := Or.inl ⟨List.mem_of_getElem? (i := 988) (by decide +kernel), rfl⟩
theorem ml_B_217 : MLk "BrassYear" 217 (mY M_C_settingFor) := Or.inl ⟨List.mem_of_getElem? (i := 993) (by decide +kernel), rfl⟩
theorem ml_B_22 : MLk "BrassYear" 22 (mY M_O_init) := Or.inl ⟨List.mem_of_getElem? (i := 217) (by decide +kernel), rfl⟩
theorem ml_B_220 : MLk "BrassYear" 220 (mY M_C_tryBys) := Or.inl ⟨List.mem_of_getElem? (i := 1014) (by decide +kernel), rfl⟩
theorem ml_B_230 : MLk "BrassYear" 230 (mY M_C_settingsFor) := Or.inl ⟨List.mem_of_getElem? (i := 1031) (by decide +kernel), rfl⟩
theorem ml_B_233 : MLk "BrassYear" 233 (mY M_K_plan) := Or.inl ⟨List.mem_of_getElem? (i := 1043) (by decide +kernel), rfl⟩
theorem ml_B_246 : MLk "BrassYear" 246 (mY M_O_hasSky) := Or.inl ⟨List.mem_of_getElem? (i := 1065) (by decide +kernel), rfl⟩
theorem ml_B_249 : MLk "BrassYear" 249 (mY M_C_agreeingFrom) := Or.inl ⟨List.mem_of_getElem? (i := 1066) (by decide +kernel), rfl⟩
theorem ml_B_252 : MLk "BrassYear" 252 (mY M_O_daysFromSky) := Or.inl ⟨List.mem_of_getElem? (i := 1074) (by decide +kernel), rfl⟩
theorem ml_B_255 : MLk "BrassYear" 255 (mY M_B_suspectTrouble) := Or.inl ⟨List.mem_of_getElem? (i := 1084) (by decide +kernel), rfl⟩
theorem ml_B_258 : MLk "BrassYear" 258 (mY M_S_weigh) := Or.inl ⟨List.mem_of_getElem? (i := 1088) (by decide +kernel), rfl⟩
theorem ml_B_277 : MLk "BrassYear" 277 (mY M_S_firstAgainst) := Or.inl ⟨List.mem_of_getElem? (i := 1139) (by decide +kernel), rfl⟩
theorem ml_B_281 : MLk "BrassYear" 281 (mY M_G_play) := Or.inl ⟨List.mem_of_getElem? (i := 1144) (by decide +kernel), rfl⟩
theorem ml_B_288 : MLk "BrassYear" 288 (mY M_H_spread) := Or.inl ⟨List.mem_of_getElem? (i := 1187) (by decide +kernel), rfl⟩
theorem ml_B_296 : MLk "BrassYear" 296 (mY M_H_lowest) := Or.inl ⟨List.mem_of_getElem? (i := 1208) (by decide +kernel), rfl⟩
theorem ml_B_304 : MLk "BrassYear" 304 (mY M_B_isNoYear) := Or.inl ⟨List.mem_of_getElem? (i := 1223) (by decide +kernel), rfl⟩
theorem ml_B_307 : MLk "BrassYear" 307 (mY M_B_liveYears) := Or.inl ⟨List.mem_of_getElem? (i := 1227) (by decide +kernel), rfl⟩
theorem ml_B_320 : MLk "BrassYear" 320 (mY M_O_goTurn) := Or.inl ⟨List.mem_of_getElem? (i := 1232) (by decide +kernel), rfl⟩
theorem ml_B_327 : MLk "BrassYear" 327 (mY M_O_slip) := Or.inl ⟨List.mem_of_getElem? (i := 1234) (by decide +kernel), rfl⟩
theorem ml_B_331 : MLk "BrassYear" 331 (mY M_O_isOn) := Or.inl ⟨List.mem_of_getElem? (i := 1238) (by decide +kernel), rfl⟩
theorem ml_B_336 : MLk "BrassYear" 336 (mY M_P_keep) := Or.inl ⟨List.mem_of_getElem? (i := 1252) (by decide +kernel), rfl⟩
theorem ml_B_339 : MLk "BrassYear" 339 (mY M_O_goTurnBack) := Or.inl ⟨List.mem_of_getElem? (i := 1262) (by decide +kernel), rfl⟩
theorem ml_B_342 : MLk "BrassYear" 342 (mY M_Math_min) := Or.inl ⟨List.mem_of_getElem? (i := 1267) (by decide +kernel), rfl⟩
theorem ml_B_347 : MLk "BrassYear" 347 (mY M_B_deny) := Or.inl ⟨List.mem_of_getElem? (i := 1272) (by decide +kernel), rfl⟩
theorem ml_B_350 : MLk "BrassYear" 350 (mY M_B_allow) := Or.inl ⟨List.mem_of_getElem? (i := 1276) (by decide +kernel), rfl⟩
theorem ml_B_356 : MLk "BrassYear" 356 (mY M_P_takeLatest) := Or.inl ⟨List.mem_of_getElem? (i := 1284) (by decide +kernel), rfl⟩
theorem ml_B_362 : MLk "BrassYear" 362 (mY M_P_addImage) := Or.inl ⟨List.mem_of_getElem? (i := 1292) (by decide +kernel), rfl⟩
theorem ml_B_365 : MLk "BrassYear" 365 (mY M_P_takeImage) := Or.inl ⟨List.mem_of_getElem? (i := 1300) (by decide +kernel), rfl⟩
theorem ml_B_379 : MLk "BrassYear" 379 (mY M_O_goneTeeth) := Or.inl ⟨List.mem_of_getElem? (i := 1308) (by decide +kernel), rfl⟩
theorem ml_B_382 : MLk "BrassYear" 382 (mY M_O_skyCount) := Or.inl ⟨List.mem_of_getElem? (i := 1312) (by decide +kernel), rfl⟩
theorem ml_B_388 : MLk "BrassYear" 388 (mY M_O_feastTooth) := Or.inl ⟨List.mem_of_getElem? (i := 992) (by decide +kernel), rfl⟩
theorem ml_B_39 : MLk "BrassYear" 39 (mY M_P_init) := Or.inr ⟨"BrassYear", ⟨List.mem_of_getElem? (i := 357) (by decide +kernel), rfl⟩⟩
theorem ml_B_391 : MLk "BrassYear" 391 (mY M_C_courseFrom) := Or.inl ⟨List.mem_of_getElem? (i := 846) (by decide +kernel), rfl⟩
theorem ml_B_395 : MLk "BrassYear" 395 (mY M_C_startFrom) := Or.inl ⟨List.mem_of_getElem? (i := 919) (by decide +kernel), rfl⟩
theorem ml_B_46 : MLk "BrassYear" 46 (mY M_C_init) := Or.inl ⟨List.mem_of_getElem? (i := 381) (by decide +kernel), rfl⟩
theorem ml_B_53 : MLk "BrassYear" 53 (mY M_K_init) := Or.inr ⟨"BrassYear", ⟨List.mem_of_getElem? (i := 451) (by decide +kernel), rfl⟩⟩
theorem ml_B_60 : MLk "BrassYear" 60 (mY M_S_init) := Or.inr ⟨"BrassYear", ⟨List.mem_of_getElem? (i := 479) (by decide +kernel), rfl⟩⟩
theorem ml_B_67 : MLk "BrassYear" 67 (mY M_G_init) := Or.inr ⟨"BrassYear", ⟨List.mem_of_getElem? (i := 516) (by decide +kernel), rfl⟩⟩
theorem ml_B_74 : MLk "BrassYear" 74 (mY M_H_init) := Or.inr ⟨"BrassYear", ⟨List.mem_of_getElem? (i := 538) (by decide +kernel), rfl⟩⟩
theorem ml_B_83 : MLk "BrassYear" 83 (mY M_B_append) := Or.inl ⟨List.mem_of_getElem? (i := 610) (by decide +kernel), rfl⟩
theorem ml_B_87 : MLk "BrassYear" 87 (mY M_B_refuse) := Or.inl ⟨List.mem_of_getElem? (i := 618) (by decide +kernel), rfl⟩
theorem ml_B_91 : MLk "BrassYear" 91 (mY M_R_read) := Or.inl ⟨List.mem_of_getElem? (i := 622) (by decide +kernel), rfl⟩
theorem ml_B_98 : MLk "BrassYear" 98 (mY M_O_putAtFirst) := Or.inl ⟨List.mem_of_getElem? (i := 771) (by decide +kernel), rfl⟩
theorem ml_C_100 : MLk "BrassYear$Calendar" 100 (mY M_W_lacks) := Or.inl ⟨List.mem_of_getElem? (i := 1009) (by decide +kernel), rfl⟩
theorem ml_C_104 : MLk "BrassYear$Calendar" 104 (mY M_C_countSettings) := Or.inl ⟨List.mem_of_getElem? (i := 1035) (by decide +kernel), rfl⟩
theorem ml_C_111 : MLk "BrassYear$Calendar" 111 (mY M_W_way) := Or.inl ⟨List.mem_of_getElem? (i := 1002) (by decide +kernel), rfl⟩
theorem ml_C_115 : MLk "BrassYear$Calendar" 115 (mY M_W_landing) := Or.inl ⟨List.mem_of_getElem? (i := 1003) (by decide +kernel), rfl⟩
theorem ml_C_118 : MLk "BrassYear$Calendar" 118 (mY M_W_resting) := Or.inl ⟨List.mem_of_getElem? (i := 1004) (by decide +kernel), rfl⟩
theorem ml_C_121 : MLk "BrassYear$Calendar" 121 (mY M_U_goingsUntil) := Or.inl ⟨List.mem_of_getElem? (i := 1005) (by decide +kernel), rfl⟩
theorem ml_C_136 : MLk "BrassYear$Calendar" 136 (mY M_W_tellLike) := Or.inl ⟨List.mem_of_getElem? (i := 1018) (by decide +kernel), rfl⟩
theorem ml_C_19 : MLk "BrassYear$Calendar" 19 (mY M_W_init) := Or.inr ⟨"BrassYear", ⟨List.mem_of_getElem? (i := 388) (by decide +kernel), rfl⟩⟩
theorem ml_C_34 : MLk "BrassYear$Calendar" 34 (mY M_U_init) := Or.inr ⟨"BrassYear", ⟨List.mem_of_getElem? (i := 390) (by decide +kernel), rfl⟩⟩
theorem ml_C_41 : MLk "BrassYear$Calendar" 41 (mY M_C_courseFrom) := Or.inl ⟨List.mem_of_getElem? (i := 923) (by decide +kernel), rfl⟩
theorem ml_C_56 : MLk "BrassYear$Calendar" 56 (mY M_U_follow) := Or.inl ⟨List.mem_of_getElem? (i := 850) (by decide +kernel), rfl⟩
theorem ml_C_60 : MLk "BrassYear$Calendar" 60 (mY M_C_firstDay) := Or.inl ⟨List.mem_of_getElem? (i := 928) (by decide +kernel), rfl⟩
theorem ml_C_64 : MLk "BrassYear$Calendar" 64 (mY M_C_waitFor) := Or.inl ⟨List.mem_of_getElem? (i := 932) (by decide +kernel), rfl⟩
theorem ml_C_68 : MLk "BrassYear$Calendar" 68 (mY M_Math_max) := Or.inl ⟨List.mem_of_getElem? (i := 945) (by decide +kernel), rfl⟩
theorem ml_C_73 : MLk "BrassYear$Calendar" 73 (mY M_O_daysToSky) := Or.inl ⟨List.mem_of_getElem? (i := 946) (by decide +kernel), rfl⟩
theorem ml_C_76 : MLk "BrassYear$Calendar" 76 (mY M_O_feastTooth) := Or.inl ⟨List.mem_of_getElem? (i := 936) (by decide +kernel), rfl⟩
theorem ml_C_79 : MLk "BrassYear$Calendar" 79 (mY M_U_dayFrom) := Or.inl ⟨List.mem_of_getElem? (i := 937) (by decide +kernel), rfl⟩
theorem ml_C_82 : MLk "BrassYear$Calendar" 82 (mY M_C_feastFrom) := Or.inl ⟨List.mem_of_getElem? (i := 959) (by decide +kernel), rfl⟩
theorem ml_C_89 : MLk "BrassYear$Calendar" 89 (mY M_U_toothOn) := Or.inl ⟨List.mem_of_getElem? (i := 997) (by decide +kernel), rfl⟩
theorem ml_C_93 : MLk "BrassYear$Calendar" 93 (mY M_C_findReached) := Or.inl ⟨List.mem_of_getElem? (i := 998) (by decide +kernel), rfl⟩
theorem ml_G_33 : MLk "BrassYear$Game" 33 (mY M_G_worth) := Or.inl ⟨List.mem_of_getElem? (i := 1149) (by decide +kernel), rfl⟩
theorem ml_G_37 : MLk "BrassYear$Game" 37 (mY M_G_makeMove) := Or.inl ⟨List.mem_of_getElem? (i := 1153) (by decide +kernel), rfl⟩
theorem ml_G_41 : MLk "BrassYear$Game" 41 (mY M_O_isOn) := Or.inl ⟨List.mem_of_getElem? (i := 1178) (by decide +kernel), rfl⟩
theorem ml_G_47 : MLk "BrassYear$Game" 47 (mY M_O_goTurn) := Or.inl ⟨List.mem_of_getElem? (i := 1157) (by decide +kernel), rfl⟩
theorem ml_G_51 : MLk "BrassYear$Game" 51 (mY M_O_goTurnBack) := Or.inl ⟨List.mem_of_getElem? (i := 1174) (by decide +kernel), rfl⟩
theorem ml_H_18 : MLk "BrassYear$Chances" 18 (mY M_Arr_fillJ) := Or.inl ⟨List.mem_of_getElem? (i := 1191) (by decide +kernel), rfl⟩
theorem ml_H_37 : MLk "BrassYear$Chances" 37 (mY M_W_goesOn) := Or.inl ⟨List.mem_of_getElem? (i := 1194) (by decide +kernel), rfl⟩
theorem ml_H_47 : MLk "BrassYear$Chances" 47 (mY M_H_spreadDay) := Or.inl ⟨List.mem_of_getElem? (i := 1195) (by decide +kernel), rfl⟩
theorem ml_H_59 : MLk "BrassYear$Chances" 59 (mY M_H_goOn) := Or.inl ⟨List.mem_of_getElem? (i := 1200) (by decide +kernel), rfl⟩
theorem ml_H_63 : MLk "BrassYear$Chances" 63 (mY M_W_way) := Or.inl ⟨List.mem_of_getElem? (i := 1204) (by decide +kernel), rfl⟩
theorem ml_H_67 : MLk "BrassYear$Chances" 67 (mY M_W_landing) := Or.inl ⟨List.mem_of_getElem? (i := 1205) (by decide +kernel), rfl⟩
theorem ml_H_71 : MLk "BrassYear$Chances" 71 (mY M_W_lacks) := Or.inl ⟨List.mem_of_getElem? (i := 1206) (by decide +kernel), rfl⟩
theorem ml_H_75 : MLk "BrassYear$Chances" 75 (mY M_W_resting) := Or.inl ⟨List.mem_of_getElem? (i := 1207) (by decide +kernel), rfl⟩
theorem ml_H_79 : MLk "BrassYear$Chances" 79 (mY M_H_commonDivisor) := Or.inl ⟨List.mem_of_getElem? (i := 1212) (by decide +kernel), rfl⟩
theorem ml_K_40 : MLk "BrassYear$WorkOrder" 40 (mY M_C_feastFrom) := Or.inl ⟨List.mem_of_getElem? (i := 1047) (by decide +kernel), rfl⟩
theorem ml_K_46 : MLk "BrassYear$WorkOrder" 46 (mY M_K_extend) := Or.inl ⟨List.mem_of_getElem? (i := 1048) (by decide +kernel), rfl⟩
theorem ml_Lat_9 : MLk "java/lang/StringLatin1" 9 (mY M_Str_checkIndex) := Or.inl ⟨List.mem_of_getElem? (i := 1686) (by decide +kernel), rfl⟩
theorem ml_Law_102 : MLk "BrassYearLaw" 102 (mY M_m_byIn) := Or.inl ⟨List.mem_of_getElem? (i := 1983) (by decide +kernel), rfl⟩
theorem ml_Law_103 : MLk "BrassYearLaw" 103 (mY M_B_settings) := Or.inl ⟨List.mem_of_getElem? (i := 1027) (by decide +kernel), rfl⟩
theorem ml_Law_106 : MLk "BrassYearLaw" 106 (mY M_m_settings) := Or.inl ⟨List.mem_of_getElem? (i := 1987) (by decide +kernel), rfl⟩
theorem ml_Law_107 : MLk "BrassYearLaw" 107 (mY M_B_lineWorth) := Or.inl ⟨List.mem_of_getElem? (i := 1039) (by decide +kernel), rfl⟩
theorem ml_Law_110 : MLk "BrassYearLaw" 110 (mY M_m_lineWorth) := Or.inl ⟨List.mem_of_getElem? (i := 1991) (by decide +kernel), rfl⟩
theorem ml_Law_111 : MLk "BrassYearLaw" 111 (mY M_B_lineAt) := Or.inl ⟨List.mem_of_getElem? (i := 1053) (by decide +kernel), rfl⟩
theorem ml_Law_114 : MLk "BrassYearLaw" 114 (mY M_m_lineAt) := Or.inl ⟨List.mem_of_getElem? (i := 2015) (by decide +kernel), rfl⟩
theorem ml_Law_115 : MLk "BrassYearLaw" 115 (mY M_B_inTime) := Or.inl ⟨List.mem_of_getElem? (i := 1057) (by decide +kernel), rfl⟩
theorem ml_Law_118 : MLk "BrassYearLaw" 118 (mY M_m_inTime) := Or.inl ⟨List.mem_of_getElem? (i := 2019) (by decide +kernel), rfl⟩
theorem ml_Law_119 : MLk "BrassYearLaw" 119 (mY M_B_agree) := Or.inl ⟨List.mem_of_getElem? (i := 1061) (by decide +kernel), rfl⟩
theorem ml_Law_122 : MLk "BrassYearLaw" 122 (mY M_m_agree) := Or.inl ⟨List.mem_of_getElem? (i := 2023) (by decide +kernel), rfl⟩
theorem ml_Law_123 : MLk "BrassYearLaw" 123 (mY M_B_drift) := Or.inl ⟨List.mem_of_getElem? (i := 1070) (by decide +kernel), rfl⟩
theorem ml_Law_126 : MLk "BrassYearLaw" 126 (mY M_m_drift) := Or.inl ⟨List.mem_of_getElem? (i := 2035) (by decide +kernel), rfl⟩
theorem ml_Law_127 : MLk "BrassYearLaw" 127 (mY M_B_fits) := Or.inl ⟨List.mem_of_getElem? (i := 1080) (by decide +kernel), rfl⟩
theorem ml_Law_130 : MLk "BrassYearLaw" 130 (mY M_m_fits) := Or.inl ⟨List.mem_of_getElem? (i := 2039) (by decide +kernel), rfl⟩
theorem ml_Law_131 : MLk "BrassYearLaw" 131 (mY M_B_fitAt) := Or.inl ⟨List.mem_of_getElem? (i := 1123) (by decide +kernel), rfl⟩
theorem ml_Law_134 : MLk "BrassYearLaw" 134 (mY M_m_fitAt) := Or.inl ⟨List.mem_of_getElem? (i := 2059) (by decide +kernel), rfl⟩
theorem ml_Law_135 : MLk "BrassYearLaw" 135 (mY M_B_look) := Or.inl ⟨List.mem_of_getElem? (i := 1127) (by decide +kernel), rfl⟩
theorem ml_Law_138 : MLk "BrassYearLaw" 138 (mY M_m_look) := Or.inl ⟨List.mem_of_getElem? (i := 2063) (by decide +kernel), rfl⟩
theorem ml_Law_139 : MLk "BrassYearLaw" 139 (mY M_B_lookLeaves) := Or.inl ⟨List.mem_of_getElem? (i := 1131) (by decide +kernel), rfl⟩
theorem ml_Law_142 : MLk "BrassYearLaw" 142 (mY M_m_lookLeaves) := Or.inl ⟨List.mem_of_getElem? (i := 2071) (by decide +kernel), rfl⟩
theorem ml_Law_143 : MLk "BrassYearLaw" 143 (mY M_B_judge) := Or.inl ⟨List.mem_of_getElem? (i := 1135) (by decide +kernel), rfl⟩
theorem ml_Law_146 : MLk "BrassYearLaw" 146 (mY M_m_judge) := Or.inl ⟨List.mem_of_getElem? (i := 2075) (by decide +kernel), rfl⟩
theorem ml_Law_147 : MLk "BrassYearLaw" 147 (mY M_B_value) := Or.inl ⟨List.mem_of_getElem? (i := 1140) (by decide +kernel), rfl⟩
theorem ml_Law_15 : MLk "BrassYearLaw" 15 (mY M_B_init) := Or.inl ⟨List.mem_of_getElem? (i := 150) (by decide +kernel), rfl⟩
theorem ml_Law_150 : MLk "BrassYearLaw" 150 (mY M_m_value) := Or.inl ⟨List.mem_of_getElem? (i := 2079) (by decide +kernel), rfl⟩
theorem ml_Law_151 : MLk "BrassYearLaw" 151 (mY M_B_moves) := Or.inl ⟨List.mem_of_getElem? (i := 1179) (by decide +kernel), rfl⟩
theorem ml_Law_154 : MLk "BrassYearLaw" 154 (mY M_m_moves) := Or.inl ⟨List.mem_of_getElem? (i := 2099) (by decide +kernel), rfl⟩
theorem ml_Law_155 : MLk "BrassYearLaw" 155 (mY M_B_likely) := Or.inl ⟨List.mem_of_getElem? (i := 1183) (by decide +kernel), rfl⟩
theorem ml_Law_159 : MLk "BrassYearLaw" 159 (mY M_m_likely) := Or.inl ⟨List.mem_of_getElem? (i := 2103) (by decide +kernel), rfl⟩
theorem ml_Law_160 : MLk "BrassYearLaw" 160 (mY M_B_jerkMean) := Or.inl ⟨List.mem_of_getElem? (i := 1215) (by decide +kernel), rfl⟩
theorem ml_Law_164 : MLk "BrassYearLaw" 164 (mY M_m_jerkMean) := Or.inl ⟨List.mem_of_getElem? (i := 2130) (by decide +kernel), rfl⟩
theorem ml_Law_165 : MLk "BrassYearLaw" 165 (mY M_B_years) := Or.inl ⟨List.mem_of_getElem? (i := 1219) (by decide +kernel), rfl⟩
theorem ml_Law_168 : MLk "BrassYearLaw" 168 (mY M_m_years) := Or.inl ⟨List.mem_of_getElem? (i := 2134) (by decide +kernel), rfl⟩
theorem ml_Law_169 : MLk "BrassYearLaw" 169 (mY M_B_yearFeasts) := Or.inl ⟨List.mem_of_getElem? (i := 1239) (by decide +kernel), rfl⟩
theorem ml_Law_172 : MLk "BrassYearLaw" 172 (mY M_m_yearFeasts) := Or.inl ⟨List.mem_of_getElem? (i := 2150) (by decide +kernel), rfl⟩
theorem ml_Law_173 : MLk "BrassYearLaw" 173 (mY M_B_slips) := Or.inl ⟨List.mem_of_getElem? (i := 1243) (by decide +kernel), rfl⟩
theorem ml_Law_176 : MLk "BrassYearLaw" 176 (mY M_m_slips) := Or.inl ⟨List.mem_of_getElem? (i := 2154) (by decide +kernel), rfl⟩
theorem ml_Law_177 : MLk "BrassYearLaw" 177 (mY M_B_turn) := Or.inl ⟨List.mem_of_getElem? (i := 1247) (by decide +kernel), rfl⟩
theorem ml_Law_18 : MLk "BrassYearLaw" 18 (mY M_m_init) := Or.inl ⟨List.mem_of_getElem? (i := 1396) (by decide +kernel), rfl⟩
theorem ml_Law_180 : MLk "BrassYearLaw" 180 (mY M_m_turn) := Or.inl ⟨List.mem_of_getElem? (i := 2158) (by decide +kernel), rfl⟩
theorem ml_Law_181 : MLk "BrassYearLaw" 181 (mY M_B_turnBack) := Or.inl ⟨List.mem_of_getElem? (i := 1258) (by decide +kernel), rfl⟩
theorem ml_Law_184 : MLk "BrassYearLaw" 184 (mY M_m_turnBack) := Or.inl ⟨List.mem_of_getElem? (i := 2171) (by decide +kernel), rfl⟩
theorem ml_Law_185 : MLk "BrassYearLaw" 185 (mY M_B_oil) := Or.inl ⟨List.mem_of_getElem? (i := 1263) (by decide +kernel), rfl⟩
theorem ml_Law_188 : MLk "BrassYearLaw" 188 (mY M_m_oil) := Or.inl ⟨List.mem_of_getElem? (i := 2175) (by decide +kernel), rfl⟩
theorem ml_Law_189 : MLk "BrassYearLaw" 189 (mY M_B_set) := Or.inl ⟨List.mem_of_getElem? (i := 1268) (by decide +kernel), rfl⟩
theorem ml_Law_19 : MLk "BrassYearLaw" 19 (mY M_B_feed) := Or.inl ⟨List.mem_of_getElem? (i := 606) (by decide +kernel), rfl⟩
theorem ml_Law_193 : MLk "BrassYearLaw" 193 (mY M_m_set) := Or.inl ⟨List.mem_of_getElem? (i := 2179) (by decide +kernel), rfl⟩
theorem ml_Law_194 : MLk "BrassYearLaw" 194 (mY M_B_undo) := Or.inl ⟨List.mem_of_getElem? (i := 1280) (by decide +kernel), rfl⟩
theorem ml_Law_198 : MLk "BrassYearLaw" 198 (mY M_m_undo) := Or.inl ⟨List.mem_of_getElem? (i := 2191) (by decide +kernel), rfl⟩
theorem ml_Law_199 : MLk "BrassYearLaw" 199 (mY M_B_image) := Or.inl ⟨List.mem_of_getElem? (i := 1288) (by decide +kernel), rfl⟩
theorem ml_Law_202 : MLk "BrassYearLaw" 202 (mY M_m_image) := Or.inl ⟨List.mem_of_getElem? (i := 2195) (by decide +kernel), rfl⟩
theorem ml_Law_203 : MLk "BrassYearLaw" 203 (mY M_B_back) := Or.inl ⟨List.mem_of_getElem? (i := 1296) (by decide +kernel), rfl⟩
theorem ml_Law_207 : MLk "BrassYearLaw" 207 (mY M_m_back) := Or.inl ⟨List.mem_of_getElem? (i := 2199) (by decide +kernel), rfl⟩
theorem ml_Law_213 : MLk "BrassYearLaw" 213 (mY M_m_led) := Or.inl ⟨List.mem_of_getElem? (i := 2203) (by decide +kernel), rfl⟩
theorem ml_Law_214 : MLk "BrassYearLaw" 214 (mY M_m_thrown) := Or.inl ⟨List.mem_of_getElem? (i := 1509) (by decide +kernel), rfl⟩
theorem ml_Law_217 : MLk "BrassYearLaw" 217 (mY M_B_size) := Or.inl ⟨List.mem_of_getElem? (i := 1304) (by decide +kernel), rfl⟩
theorem ml_Law_220 : MLk "BrassYearLaw" 220 (mY M_m_size) := Or.inl ⟨List.mem_of_getElem? (i := 2207) (by decide +kernel), rfl⟩
theorem ml_Law_221 : MLk "BrassYearLaw" 221 (mY M_B_trouble) := Or.inl ⟨List.mem_of_getElem? (i := 1317) (by decide +kernel), rfl⟩
theorem ml_Law_224 : MLk "BrassYearLaw" 224 (mY M_m_trouble) := Or.inl ⟨List.mem_of_getElem? (i := 2211) (by decide +kernel), rfl⟩
theorem ml_Law_23 : MLk "BrassYearLaw" 23 (mY M_m_feed) := Or.inl ⟨List.mem_of_getElem? (i := 1513) (by decide +kernel), rfl⟩
theorem ml_Law_24 : MLk "BrassYearLaw" 24 (mY M_B_orrery) := Or.inl ⟨List.mem_of_getElem? (i := 614) (by decide +kernel), rfl⟩
theorem ml_Law_27 : MLk "BrassYearLaw" 27 (mY M_m_orrery) := Or.inl ⟨List.mem_of_getElem? (i := 1517) (by decide +kernel), rfl⟩
theorem ml_Law_28 : MLk "BrassYearLaw" 28 (mY M_B_fault) := Or.inl ⟨List.mem_of_getElem? (i := 787) (by decide +kernel), rfl⟩
theorem ml_Law_32 : MLk "BrassYearLaw" 32 (mY M_m_fault) := Or.inl ⟨List.mem_of_getElem? (i := 1842) (by decide +kernel), rfl⟩
theorem ml_Law_33 : MLk "BrassYearLaw" 33 (mY M_B_where) := Or.inl ⟨List.mem_of_getElem? (i := 791) (by decide +kernel), rfl⟩
theorem ml_Law_36 : MLk "BrassYearLaw" 36 (mY M_m_where) := Or.inl ⟨List.mem_of_getElem? (i := 1846) (by decide +kernel), rfl⟩
theorem ml_Law_37 : MLk "BrassYearLaw" 37 (mY M_B_wheel) := Or.inl ⟨List.mem_of_getElem? (i := 795) (by decide +kernel), rfl⟩
theorem ml_Law_41 : MLk "BrassYearLaw" 41 (mY M_m_wheel) := Or.inl ⟨List.mem_of_getElem? (i := 1850) (by decide +kernel), rfl⟩
theorem ml_Law_42 : MLk "BrassYearLaw" 42 (mY M_B_isGone) := Or.inl ⟨List.mem_of_getElem? (i := 808) (by decide +kernel), rfl⟩
theorem ml_Law_45 : MLk "BrassYearLaw" 45 (mY M_m_isGone) := Or.inl ⟨List.mem_of_getElem? (i := 1862) (by decide +kernel), rfl⟩
theorem ml_Law_46 : MLk "BrassYearLaw" 46 (mY M_B_now) := Or.inl ⟨List.mem_of_getElem? (i := 817) (by decide +kernel), rfl⟩
theorem ml_Law_49 : MLk "BrassYearLaw" 49 (mY M_m_now) := Or.inl ⟨List.mem_of_getElem? (i := 1866) (by decide +kernel), rfl⟩
theorem ml_Law_50 : MLk "BrassYearLaw" 50 (mY M_B_work) := Or.inl ⟨List.mem_of_getElem? (i := 833) (by decide +kernel), rfl⟩
theorem ml_Law_53 : MLk "BrassYearLaw" 53 (mY M_m_work) := Or.inl ⟨List.mem_of_getElem? (i := 1882) (by decide +kernel), rfl⟩
theorem ml_Law_54 : MLk "BrassYearLaw" 54 (mY M_B_toothIn) := Or.inl ⟨List.mem_of_getElem? (i := 837) (by decide +kernel), rfl⟩
theorem ml_Law_57 : MLk "BrassYearLaw" 57 (mY M_m_toothIn) := Or.inl ⟨List.mem_of_getElem? (i := 1886) (by decide +kernel), rfl⟩
theorem ml_Law_58 : MLk "BrassYearLaw" 58 (mY M_B_jerks) := Or.inl ⟨List.mem_of_getElem? (i := 883) (by decide +kernel), rfl⟩
theorem ml_Law_61 : MLk "BrassYearLaw" 61 (mY M_m_jerks) := Or.inl ⟨List.mem_of_getElem? (i := 1915) (by decide +kernel), rfl⟩
theorem ml_Law_62 : MLk "BrassYearLaw" 62 (mY M_B_comesRound) := Or.inl ⟨List.mem_of_getElem? (i := 891) (by decide +kernel), rfl⟩
theorem ml_Law_65 : MLk "BrassYearLaw" 65 (mY M_m_comesRound) := Or.inl ⟨List.mem_of_getElem? (i := 1919) (by decide +kernel), rfl⟩
theorem ml_Law_66 : MLk "BrassYearLaw" 66 (mY M_B_idle) := Or.inl ⟨List.mem_of_getElem? (i := 899) (by decide +kernel), rfl⟩
theorem ml_Law_69 : MLk "BrassYearLaw" 69 (mY M_m_idle) := Or.inl ⟨List.mem_of_getElem? (i := 1923) (by decide +kernel), rfl⟩
theorem ml_Law_7 : MLk "BrassYearLaw" 7 (mY M_B_led) := Or.inl ⟨List.mem_of_getElem? (i := 1325) (by decide +kernel), rfl⟩
theorem ml_Law_70 : MLk "BrassYearLaw" 70 (mY M_B_next) := Or.inl ⟨List.mem_of_getElem? (i := 907) (by decide +kernel), rfl⟩
theorem ml_Law_73 : MLk "BrassYearLaw" 73 (mY M_m_next) := Or.inl ⟨List.mem_of_getElem? (i := 1927) (by decide +kernel), rfl⟩
theorem ml_Law_74 : MLk "BrassYearLaw" 74 (mY M_B_often) := Or.inl ⟨List.mem_of_getElem? (i := 951) (by decide +kernel), rfl⟩
theorem ml_Law_77 : MLk "BrassYearLaw" 77 (mY M_m_often) := Or.inl ⟨List.mem_of_getElem? (i := 1947) (by decide +kernel), rfl⟩
theorem ml_Law_78 : MLk "BrassYearLaw" 78 (mY M_B_meet) := Or.inl ⟨List.mem_of_getElem? (i := 960) (by decide +kernel), rfl⟩
theorem ml_Law_81 : MLk "BrassYearLaw" 81 (mY M_m_meet) := Or.inl ⟨List.mem_of_getElem? (i := 1951) (by decide +kernel), rfl⟩
theorem ml_Law_82 : MLk "BrassYearLaw" 82 (mY M_B_soonest) := Or.inl ⟨List.mem_of_getElem? (i := 968) (by decide +kernel), rfl⟩
theorem ml_Law_85 : MLk "BrassYearLaw" 85 (mY M_m_soonest) := Or.inl ⟨List.mem_of_getElem? (i := 1955) (by decide +kernel), rfl⟩
theorem ml_Law_86 : MLk "BrassYearLaw" 86 (mY M_B_longestGap) := Or.inl ⟨List.mem_of_getElem? (i := 976) (by decide +kernel), rfl⟩
theorem ml_Law_89 : MLk "BrassYearLaw" 89 (mY M_m_longestGap) := Or.inl ⟨List.mem_of_getElem? (i := 1959) (by decide +kernel), rfl⟩
theorem ml_Law_90 : MLk "BrassYearLaw" 90 (mY M_B_setFor) := Or.inl ⟨List.mem_of_getElem? (i := 984) (by decide +kernel), rfl⟩
theorem ml_Law_94 : MLk "BrassYearLaw" 94 (mY M_m_setFor) := Or.inl ⟨List.mem_of_getElem? (i := 1963) (by decide +kernel), rfl⟩
theorem ml_Law_95 : MLk "BrassYearLaw" 95 (mY M_B_byFor) := Or.inl ⟨List.mem_of_getElem? (i := 1010) (by decide +kernel), rfl⟩
theorem ml_Law_98 : MLk "BrassYearLaw" 98 (mY M_m_byFor) := Or.inl ⟨List.mem_of_getElem? (i := 1975) (by decide +kernel), rfl⟩
theorem ml_Law_99 : MLk "BrassYearLaw" 99 (mY M_B_byIn) := Or.inl ⟨List.mem_of_getElem? (i := 1023) (by decide +kernel), rfl⟩
theorem ml_O_101 : MLk "BrassYear$Orrery" 101 (mY M_O_moveAll) := Or.inl ⟨List.mem_of_getElem? (i := 1161) (by decide +kernel), rfl⟩
theorem ml_O_105 : MLk "BrassYear$Orrery" 105 (mY M_W_goesOn) := Or.inl ⟨List.mem_of_getElem? (i := 1165) (by decide +kernel), rfl⟩
theorem ml_O_112 : MLk "BrassYear$Orrery" 112 (mY M_W_way) := Or.inl ⟨List.mem_of_getElem? (i := 1166) (by decide +kernel), rfl⟩
theorem ml_O_116 : MLk "BrassYear$Orrery" 116 (mY M_O_moveOne) := Or.inl ⟨List.mem_of_getElem? (i := 1167) (by decide +kernel), rfl⟩
theorem ml_O_120 : MLk "BrassYear$Orrery" 120 (mY M_W_landing) := Or.inl ⟨List.mem_of_getElem? (i := 1171) (by decide +kernel), rfl⟩
theorem ml_O_124 : MLk "BrassYear$Orrery" 124 (mY M_W_resting) := Or.inl ⟨List.mem_of_getElem? (i := 1172) (by decide +kernel), rfl⟩
theorem ml_O_127 : MLk "BrassYear$Orrery" 127 (mY M_W_lacks) := Or.inl ⟨List.mem_of_getElem? (i := 1173) (by decide +kernel), rfl⟩
theorem ml_O_47 : MLk "BrassYear$Orrery" 47 (mY M_W_init) := Or.inr ⟨"BrassYear", ⟨List.mem_of_getElem? (i := 224) (by decide +kernel), rfl⟩⟩
theorem ml_O_66 : MLk "BrassYear$Orrery" 66 (mY M_Arr_fillI) := Or.inl ⟨List.mem_of_getElem? (i := 633) (by decide +kernel), rfl⟩
theorem ml_O_75 : MLk "BrassYear$Orrery" 75 (mY M_O_feastTooth) := Or.inl ⟨List.mem_of_getElem? (i := 807) (by decide +kernel), rfl⟩
theorem ml_O_79 : MLk "BrassYear$Orrery" 79 (mY M_O_isOn) := Or.inl ⟨List.mem_of_getElem? (i := 829) (by decide +kernel), rfl⟩
theorem ml_O_86 : MLk "BrassYear$Orrery" 86 (mY M_O_hasSky) := Or.inl ⟨List.mem_of_getElem? (i := 1316) (by decide +kernel), rfl⟩
theorem ml_O_90 : MLk "BrassYear$Orrery" 90 (mY M_B_remainder) := Or.inr ⟨"BrassYear", ⟨List.mem_of_getElem? (i := 950) (by decide +kernel), rfl⟩⟩
theorem ml_O_93 : MLk "BrassYear$Orrery" 93 (mY M_O_daysToSky) := Or.inl ⟨List.mem_of_getElem? (i := 1078) (by decide +kernel), rfl⟩
theorem ml_O_96 : MLk "BrassYear$Orrery" 96 (mY M_Math_min) := Or.inl ⟨List.mem_of_getElem? (i := 1079) (by decide +kernel), rfl⟩
theorem ml_P_34 : MLk "BrassYear$Past" 34 (mY M_Math_min) := Or.inl ⟨List.mem_of_getElem? (i := 1257) (by decide +kernel), rfl⟩
theorem ml_R_100 : MLk "BrassYear$Reader" 100 (mY M_R_readGone) := Or.inl ⟨List.mem_of_getElem? (i := 714) (by decide +kernel), rfl⟩
theorem ml_R_105 : MLk "BrassYear$Reader" 105 (mY M_R_readFeast) := Or.inl ⟨List.mem_of_getElem? (i := 730) (by decide +kernel), rfl⟩
theorem ml_R_110 : MLk "BrassYear$Reader" 110 (mY M_R_readWork) := Or.inl ⟨List.mem_of_getElem? (i := 746) (by decide +kernel), rfl⟩
theorem ml_R_115 : MLk "BrassYear$Reader" 115 (mY M_R_readSky) := Or.inl ⟨List.mem_of_getElem? (i := 752) (by decide +kernel), rfl⟩
theorem ml_R_120 : MLk "BrassYear$Reader" 120 (mY M_R_readSuspect) := Or.inl ⟨List.mem_of_getElem? (i := 762) (by decide +kernel), rfl⟩
theorem ml_R_125 : MLk "BrassYear$Reader" 125 (mY M_R_readSeen) := Or.inl ⟨List.mem_of_getElem? (i := 766) (by decide +kernel), rfl⟩
theorem ml_R_129 : MLk "BrassYear$Reader" 129 (mY M_R_pass) := Or.inl ⟨List.mem_of_getElem? (i := 677) (by decide +kernel), rfl⟩
theorem ml_R_135 : MLk "BrassYear$Reader" 135 (mY M_R_readWhole) := Or.inl ⟨List.mem_of_getElem? (i := 682) (by decide +kernel), rfl⟩
theorem ml_R_146 : MLk "BrassYear$Reader" 146 (mY M_R_tellName) := Or.inl ⟨List.mem_of_getElem? (i := 691) (by decide +kernel), rfl⟩
theorem ml_R_149 : MLk "BrassYear$Reader" 149 (mY M_R_readKind) := Or.inl ⟨List.mem_of_getElem? (i := 699) (by decide +kernel), rfl⟩
theorem ml_R_163 : MLk "BrassYear$Reader" 163 (mY M_W_tell) := Or.inl ⟨List.mem_of_getElem? (i := 710) (by decide +kernel), rfl⟩
theorem ml_R_177 : MLk "BrassYear$Reader" 177 (mY M_R_readName) := Or.inl ⟨List.mem_of_getElem? (i := 718) (by decide +kernel), rfl⟩
theorem ml_R_193 : MLk "BrassYear$Reader" 193 (mY M_W_lacks) := Or.inl ⟨List.mem_of_getElem? (i := 722) (by decide +kernel), rfl⟩
theorem ml_R_197 : MLk "BrassYear$Reader" 197 (mY M_W_loseTooth) := Or.inl ⟨List.mem_of_getElem? (i := 726) (by decide +kernel), rfl⟩
theorem ml_R_204 : MLk "BrassYear$Reader" 204 (mY M_R_readFeastWheel) := Or.inl ⟨List.mem_of_getElem? (i := 734) (by decide +kernel), rfl⟩
theorem ml_R_207 : MLk "BrassYear$Reader" 207 (mY M_O_feastTooth) := Or.inl ⟨List.mem_of_getElem? (i := 738) (by decide +kernel), rfl⟩
theorem ml_R_210 : MLk "BrassYear$Reader" 210 (mY M_O_putFeastTooth) := Or.inl ⟨List.mem_of_getElem? (i := 742) (by decide +kernel), rfl⟩
theorem ml_R_230 : MLk "BrassYear$Reader" 230 (mY M_O_hasSky) := Or.inl ⟨List.mem_of_getElem? (i := 756) (by decide +kernel), rfl⟩
theorem ml_R_258 : MLk "BrassYear$Reader" 258 (mY M_R_findName) := Or.inl ⟨List.mem_of_getElem? (i := 695) (by decide +kernel), rfl⟩
theorem ml_R_26 : MLk "BrassYear$Reader" 26 (mY M_Math_min) := Or.inl ⟨List.mem_of_getElem? (i := 626) (by decide +kernel), rfl⟩
theorem ml_R_267 : MLk "BrassYear$Reader" 267 (mY M_R_takeWord) := Or.inl ⟨List.mem_of_getElem? (i := 640) (by decide +kernel), rfl⟩
theorem ml_R_270 : MLk "BrassYear$Reader" 270 (mY M_R_takeWhole) := Or.inl ⟨List.mem_of_getElem? (i := 644) (by decide +kernel), rfl⟩
theorem ml_R_40 : MLk "BrassYear$Reader" 40 (mY M_O_clear) := Or.inl ⟨List.mem_of_getElem? (i := 629) (by decide +kernel), rfl⟩
theorem ml_R_61 : MLk "BrassYear$Reader" 61 (mY M_R_step) := Or.inl ⟨List.mem_of_getElem? (i := 636) (by decide +kernel), rfl⟩
theorem ml_R_64 : MLk "BrassYear$Reader" 64 (mY M_R_readLine) := Or.inl ⟨List.mem_of_getElem? (i := 648) (by decide +kernel), rfl⟩
theorem ml_R_73 : MLk "BrassYear$Reader" 73 (mY M_R_fail) := Or.inl ⟨List.mem_of_getElem? (i := 665) (by decide +kernel), rfl⟩
theorem ml_R_80 : MLk "BrassYear$Reader" 80 (mY M_R_isLineWord) := Or.inl ⟨List.mem_of_getElem? (i := 652) (by decide +kernel), rfl⟩
theorem ml_R_86 : MLk "BrassYear$Reader" 86 (mY M_R_is) := Or.inl ⟨List.mem_of_getElem? (i := 669) (by decide +kernel), rfl⟩
theorem ml_R_90 : MLk "BrassYear$Reader" 90 (mY M_R_readBrass) := Or.inl ⟨List.mem_of_getElem? (i := 673) (by decide +kernel), rfl⟩
theorem ml_R_95 : MLk "BrassYear$Reader" 95 (mY M_R_readWheel) := Or.inl ⟨List.mem_of_getElem? (i := 687) (by decide +kernel), rfl⟩
theorem ml_S_106 : MLk "BrassYear$Suspicion" 106 (mY M_S_jerkedOn) := Or.inl ⟨List.mem_of_getElem? (i := 1114) (by decide +kernel), rfl⟩
theorem ml_S_11 : MLk "BrassYear$Suspicion" 11 (mY M_W_init) := Or.inr ⟨"BrassYear", ⟨List.mem_of_getElem? (i := 484) (by decide +kernel), rfl⟩⟩
theorem ml_S_119 : MLk "BrassYear$Suspicion" 119 (mY M_Math_max) := Or.inl ⟨List.mem_of_getElem? (i := 1122) (by decide +kernel), rfl⟩
theorem ml_S_49 : MLk "BrassYear$Suspicion" 49 (mY M_W_tellLike) := Or.inl ⟨List.mem_of_getElem? (i := 1092) (by decide +kernel), rfl⟩
theorem ml_S_53 : MLk "BrassYear$Suspicion" 53 (mY M_W_loseTooth) := Or.inl ⟨List.mem_of_getElem? (i := 1093) (by decide +kernel), rfl⟩
theorem ml_S_60 : MLk "BrassYear$Suspicion" 60 (mY M_S_recordJerks) := Or.inl ⟨List.mem_of_getElem? (i := 1094) (by decide +kernel), rfl⟩
theorem ml_S_64 : MLk "BrassYear$Suspicion" 64 (mY M_S_firstAgainst) := Or.inl ⟨List.mem_of_getElem? (i := 1110) (by decide +kernel), rfl⟩
theorem ml_S_68 : MLk "BrassYear$Suspicion" 68 (mY M_S_chooseDay) := Or.inl ⟨List.mem_of_getElem? (i := 1118) (by decide +kernel), rfl⟩
theorem ml_S_74 : MLk "BrassYear$Suspicion" 74 (mY M_W_goesOn) := Or.inl ⟨List.mem_of_getElem? (i := 1098) (by decide +kernel), rfl⟩
theorem ml_S_81 : MLk "BrassYear$Suspicion" 81 (mY M_W_way) := Or.inl ⟨List.mem_of_getElem? (i := 1102) (by decide +kernel), rfl⟩
theorem ml_S_85 : MLk "BrassYear$Suspicion" 85 (mY M_W_landing) := Or.inl ⟨List.mem_of_getElem? (i := 1103) (by decide +kernel), rfl⟩
theorem ml_S_89 : MLk "BrassYear$Suspicion" 89 (mY M_W_lacks) := Or.inl ⟨List.mem_of_getElem? (i := 1104) (by decide +kernel), rfl⟩
theorem ml_S_93 : MLk "BrassYear$Suspicion" 93 (mY M_S_recordJerk) := Or.inl ⟨List.mem_of_getElem? (i := 1105) (by decide +kernel), rfl⟩
theorem ml_S_96 : MLk "BrassYear$Suspicion" 96 (mY M_W_resting) := Or.inl ⟨List.mem_of_getElem? (i := 1109) (by decide +kernel), rfl⟩
theorem ml_Str_1059 : MLk "java/lang/String" 1059 (mY M_Pre_checkIndex) := Or.inl ⟨List.mem_of_getElem? (i := 1691) (by decide +kernel), rfl⟩
theorem ml_Str_495 : MLk "java/lang/String" 495 (mY M_Lat_charAt) := Or.inl ⟨List.mem_of_getElem? (i := 1683) (by decide +kernel), rfl⟩
theorem ml_U_34 : MLk "BrassYear$Course" 34 (mY M_Arr_fillI) := Or.inl ⟨List.mem_of_getElem? (i := 854) (by decide +kernel), rfl⟩
theorem ml_U_46 : MLk "BrassYear$Course" 46 (mY M_W_way) := Or.inl ⟨List.mem_of_getElem? (i := 855) (by decide +kernel), rfl⟩
theorem ml_U_50 : MLk "BrassYear$Course" 50 (mY M_W_landing) := Or.inl ⟨List.mem_of_getElem? (i := 859) (by decide +kernel), rfl⟩
theorem ml_U_54 : MLk "BrassYear$Course" 54 (mY M_W_lacks) := Or.inl ⟨List.mem_of_getElem? (i := 863) (by decide +kernel), rfl⟩
theorem ml_U_58 : MLk "BrassYear$Course" 58 (mY M_W_resting) := Or.inl ⟨List.mem_of_getElem? (i := 864) (by decide +kernel), rfl⟩
theorem ml_U_62 : MLk "BrassYear$Course" 62 (mY M_Math_max) := Or.inl ⟨List.mem_of_getElem? (i := 868) (by decide +kernel), rfl⟩
theorem ml_U_70 : MLk "BrassYear$Course" 70 (mY M_Math_min) := Or.inl ⟨List.mem_of_getElem? (i := 879) (by decide +kernel), rfl⟩
theorem ml_U_73 : MLk "BrassYear$Course" 73 (mY M_U_goingsUntil) := Or.inl ⟨List.mem_of_getElem? (i := 875) (by decide +kernel), rfl⟩
theorem ml_U_77 : MLk "BrassYear$Course" 77 (mY M_B_remainder) := Or.inr ⟨"BrassYear", ⟨List.mem_of_getElem? (i := 880) (by decide +kernel), rfl⟩⟩
theorem ml_U_80 : MLk "BrassYear$Course" 80 (mY M_U_dayOfGoing) := Or.inl ⟨List.mem_of_getElem? (i := 941) (by decide +kernel), rfl⟩
theorem ml_W_31 : MLk "BrassYear$Wheel" 31 (mY M_W_tell) := Or.inl ⟨List.mem_of_getElem? (i := 1022) (by decide +kernel), rfl⟩
theorem ml_m_106 : MLk "BrassYearModel" 106 (mY M_m_isDigit) := Or.inl ⟨List.mem_of_getElem? (i := 1646) (by decide +kernel), rfl⟩
theorem ml_m_118 : MLk "BrassYearModel" 118 (mY M_m_packed) := Or.inl ⟨List.mem_of_getElem? (i := 1662) (by decide +kernel), rfl⟩
theorem ml_m_122 : MLk "BrassYearModel" 122 (mY M_m_goesOn) := Or.inl ⟨List.mem_of_getElem? (i := 1634) (by decide +kernel), rfl⟩
theorem ml_m_125 : MLk "BrassYearModel" 125 (mY M_m_isWord) := Or.inl ⟨List.mem_of_getElem? (i := 1658) (by decide +kernel), rfl⟩
theorem ml_m_129 : MLk "BrassYearModel" 129 (mY M_m_flaw) := Or.inl ⟨List.mem_of_getElem? (i := 1717) (by decide +kernel), rfl⟩
theorem ml_m_133 : MLk "BrassYearModel" 133 (mY M_m_in) := Or.inl ⟨List.mem_of_getElem? (i := 1738) (by decide +kernel), rfl⟩
theorem ml_m_137 : MLk "BrassYearModel" 137 (mY M_m_wholeAtHand) := Or.inl ⟨List.mem_of_getElem? (i := 1734) (by decide +kernel), rfl⟩
theorem ml_m_141 : MLk "BrassYearModel" 141 (mY M_m_needs) := Or.inl ⟨List.mem_of_getElem? (i := 1726) (by decide +kernel), rfl⟩
theorem ml_m_145 : MLk "BrassYearModel" 145 (mY M_m_readWhole) := Or.inl ⟨List.mem_of_getElem? (i := 1730) (by decide +kernel), rfl⟩
theorem ml_m_175 : MLk "BrassYearModel" 175 (mY M_m_isName) := Or.inl ⟨List.mem_of_getElem? (i := 1755) (by decide +kernel), rfl⟩
theorem ml_m_179 : MLk "BrassYearModel" 179 (mY M_n_find) := Or.inl ⟨List.mem_of_getElem? (i := 1766) (by decide +kernel), rfl⟩
theorem ml_m_196 : MLk "BrassYearModel" 196 (mY M_m_knownOne) := Or.inl ⟨List.mem_of_getElem? (i := 1785) (by decide +kernel), rfl⟩
theorem ml_m_199 : MLk "BrassYearModel" 199 (mY M_m_readLine) := Or.inl ⟨List.mem_of_getElem? (i := 1653) (by decide +kernel), rfl⟩
theorem ml_m_202 : MLk "BrassYearModel" 202 (mY M_m_eats) := Or.inl ⟨List.mem_of_getElem? (i := 1805) (by decide +kernel), rfl⟩
theorem ml_m_208 : MLk "BrassYearModel" 208 (mY M_m_readBrass) := Or.inl ⟨List.mem_of_getElem? (i := 1713) (by decide +kernel), rfl⟩
theorem ml_m_211 : MLk "BrassYearModel" 211 (mY M_m_readWheel) := Or.inl ⟨List.mem_of_getElem? (i := 1743) (by decide +kernel), rfl⟩
theorem ml_m_214 : MLk "BrassYearModel" 214 (mY M_m_readGone) := Or.inl ⟨List.mem_of_getElem? (i := 1781) (by decide +kernel), rfl⟩
theorem ml_m_217 : MLk "BrassYearModel" 217 (mY M_m_readFeast) := Or.inl ⟨List.mem_of_getElem? (i := 1798) (by decide +kernel), rfl⟩
theorem ml_m_220 : MLk "BrassYearModel" 220 (mY M_m_readWork) := Or.inl ⟨List.mem_of_getElem? (i := 1809) (by decide +kernel), rfl⟩
theorem ml_m_223 : MLk "BrassYearModel" 223 (mY M_m_readSky) := Or.inl ⟨List.mem_of_getElem? (i := 1819) (by decide +kernel), rfl⟩
theorem ml_m_226 : MLk "BrassYearModel" 226 (mY M_m_readSuspect) := Or.inl ⟨List.mem_of_getElem? (i := 1825) (by decide +kernel), rfl⟩
theorem ml_m_229 : MLk "BrassYearModel" 229 (mY M_m_readSeen) := Or.inl ⟨List.mem_of_getElem? (i := 1829) (by decide +kernel), rfl⟩
theorem ml_m_233 : MLk "BrassYearModel" 233 (mY M_m_readPart) := Or.inl ⟨List.mem_of_getElem? (i := 1722) (by decide +kernel), rfl⟩
theorem ml_m_241 : MLk "BrassYearModel" 241 (mY M_m_lineBegins) := Or.inl ⟨List.mem_of_getElem? (i := 1747) (by decide +kernel), rfl⟩
theorem ml_m_245 : MLk "BrassYearModel" 245 (mY M_m_readFresh) := Or.inl ⟨List.mem_of_getElem? (i := 1751) (by decide +kernel), rfl⟩
theorem ml_m_263 : MLk "BrassYearModel" 263 (mY M_m_names) := Or.inl ⟨List.mem_of_getElem? (i := 1777) (by decide +kernel), rfl⟩
theorem ml_m_275 : MLk "BrassYearModel" 275 (mY M_n_manyGone) := Or.inl ⟨List.mem_of_getElem? (i := 1789) (by decide +kernel), rfl⟩
theorem ml_m_280 : MLk "BrassYearModel" 280 (mY M_n_isGone) := Or.inl ⟨List.mem_of_getElem? (i := 1797) (by decide +kernel), rfl⟩
theorem ml_m_292 : MLk "BrassYearModel" 292 (mY M_m_bit) := Or.inl ⟨List.mem_of_getElem? (i := 1802) (by decide +kernel), rfl⟩
theorem ml_m_307 : MLk "BrassYearModel" 307 (mY M_m_readKnown) := Or.inl ⟨List.mem_of_getElem? (i := 1815) (by decide +kernel), rfl⟩
theorem ml_m_333 : MLk "BrassYearModel" 333 (mY M_n_isSeen) := Or.inl ⟨List.mem_of_getElem? (i := 1834) (by decide +kernel), rfl⟩
theorem ml_m_344 : MLk "BrassYearModel" 344 (mY M_n_init) := Or.inr ⟨"BrassYearModel", ⟨List.mem_of_getElem? (i := 1527) (by decide +kernel), rfl⟩⟩
theorem ml_m_345 : MLk "BrassYearModel" 345 (mY M_m_readAll) := Or.inl ⟨List.mem_of_getElem? (i := 1649) (by decide +kernel), rfl⟩
theorem ml_m_357 : MLk "BrassYearModel" 357 (mY M_m_isWheel) := Or.inl ⟨List.mem_of_getElem? (i := 1854) (by decide +kernel), rfl⟩
theorem ml_m_360 : MLk "BrassYearModel" 360 (mY M_m_isFeast) := Or.inl ⟨List.mem_of_getElem? (i := 1931) (by decide +kernel), rfl⟩
theorem ml_m_367 : MLk "BrassYearModel" 367 (mY M_m_way) := Or.inl ⟨List.mem_of_getElem? (i := 1907) (by decide +kernel), rfl⟩
theorem ml_m_370 : MLk "BrassYearModel" 370 (mY M_m_goes) := Or.inl ⟨List.mem_of_getElem? (i := 1911) (by decide +kernel), rfl⟩
theorem ml_m_374 : MLk "BrassYearModel" 374 (mY M_m_goesOnce) := Or.inl ⟨List.mem_of_getElem? (i := 1903) (by decide +kernel), rfl⟩
theorem ml_m_377 : MLk "BrassYearModel" 377 (mY M_m_isGoing) := Or.inl ⟨List.mem_of_getElem? (i := 1943) (by decide +kernel), rfl⟩
theorem ml_m_380 : MLk "BrassYearModel" 380 (mY M_m_feastsOf) := Or.inl ⟨List.mem_of_getElem? (i := 1858) (by decide +kernel), rfl⟩
theorem ml_m_383 : MLk "BrassYearModel" 383 (mY M_m_works) := Or.inl ⟨List.mem_of_getElem? (i := 1874) (by decide +kernel), rfl⟩
theorem ml_m_385 : MLk "BrassYearModel" 385 (mY M_m_isOn) := Or.inl ⟨List.mem_of_getElem? (i := 1878) (by decide +kernel), rfl⟩
theorem ml_m_388 : MLk "BrassYearModel" 388 (mY M_m_onNow) := Or.inl ⟨List.mem_of_getElem? (i := 1870) (by decide +kernel), rfl⟩
theorem ml_m_392 : MLk "BrassYearModel" 392 (mY M_m_refusesDays) := Or.inl ⟨List.mem_of_getElem? (i := 1891) (by decide +kernel), rfl⟩
theorem ml_m_396 : MLk "BrassYearModel" 396 (mY M_m_goings) := Or.inl ⟨List.mem_of_getElem? (i := 1895) (by decide +kernel), rfl⟩
theorem ml_m_399 : MLk "BrassYearModel" 399 (mY M_m_toothBehind) := Or.inl ⟨List.mem_of_getElem? (i := 1899) (by decide +kernel), rfl⟩
theorem ml_m_403 : MLk "BrassYearModel" 403 (mY M_m_aTurn) := Or.inl ⟨List.mem_of_getElem? (i := 1939) (by decide +kernel), rfl⟩
theorem ml_m_406 : MLk "BrassYearModel" 406 (mY M_m_nextOf) := Or.inl ⟨List.mem_of_getElem? (i := 1935) (by decide +kernel), rfl⟩
theorem ml_m_409 : MLk "BrassYearModel" 409 (mY M_m_isOf) := Or.inl ⟨List.mem_of_getElem? (i := 1967) (by decide +kernel), rfl⟩
theorem ml_m_412 : MLk "BrassYearModel" 412 (mY M_m_leadsTo) := Or.inl ⟨List.mem_of_getElem? (i := 1971) (by decide +kernel), rfl⟩
theorem ml_m_419 : MLk "BrassYearModel" 419 (mY M_m_paces) := Or.inl ⟨List.mem_of_getElem? (i := 1979) (by decide +kernel), rfl⟩
theorem ml_m_422 : MLk "BrassYearModel" 422 (mY M_m_swaps) := Or.inl ⟨List.mem_of_getElem? (i := 2011) (by decide +kernel), rfl⟩
theorem ml_m_425 : MLk "BrassYearModel" 425 (mY M_m_timely) := Or.inl ⟨List.mem_of_getElem? (i := 1999) (by decide +kernel), rfl⟩
theorem ml_m_428 : MLk "BrassYearModel" 428 (mY M_m_worthOf) := Or.inl ⟨List.mem_of_getElem? (i := 2003) (by decide +kernel), rfl⟩
theorem ml_m_434 : MLk "BrassYearModel" 434 (mY M_m_nextOrder) := Or.inl ⟨List.mem_of_getElem? (i := 2007) (by decide +kernel), rfl⟩
theorem ml_m_437 : MLk "BrassYearModel" 437 (mY M_m_lines) := Or.inl ⟨List.mem_of_getElem? (i := 1995) (by decide +kernel), rfl⟩
theorem ml_m_440 : MLk "BrassYearModel" 440 (mY M_m_refusesSky) := Or.inl ⟨List.mem_of_getElem? (i := 2027) (by decide +kernel), rfl⟩
theorem ml_m_443 : MLk "BrassYearModel" 443 (mY M_m_off) := Or.inl ⟨List.mem_of_getElem? (i := 2031) (by decide +kernel), rfl⟩
theorem ml_m_446 : MLk "BrassYearModel" 446 (mY M_m_replays) := Or.inl ⟨List.mem_of_getElem? (i := 2055) (by decide +kernel), rfl⟩
theorem ml_m_452 : MLk "BrassYearModel" 452 (mY M_m_wrong) := Or.inl ⟨List.mem_of_getElem? (i := 2051) (by decide +kernel), rfl⟩
theorem ml_m_455 : MLk "BrassYearModel" 455 (mY M_m_refusesSuspect) := Or.inl ⟨List.mem_of_getElem? (i := 2043) (by decide +kernel), rfl⟩
theorem ml_m_458 : MLk "BrassYearModel" 458 (mY M_m_fitting) := Or.inl ⟨List.mem_of_getElem? (i := 2047) (by decide +kernel), rfl⟩
theorem ml_m_464 : MLk "BrassYearModel" 464 (mY M_m_looks) := Or.inl ⟨List.mem_of_getElem? (i := 2067) (by decide +kernel), rfl⟩
theorem ml_m_467 : MLk "BrassYearModel" 467 (mY M_m_aTurnBack) := Or.inl ⟨List.mem_of_getElem? (i := 2091) (by decide +kernel), rfl⟩
theorem ml_m_470 : MLk "BrassYearModel" 470 (mY M_m_feastsBy) := Or.inl ⟨List.mem_of_getElem? (i := 2087) (by decide +kernel), rfl⟩
theorem ml_m_473 : MLk "BrassYearModel" 473 (mY M_m_bestOf) := Or.inl ⟨List.mem_of_getElem? (i := 2095) (by decide +kernel), rfl⟩
theorem ml_m_477 : MLk "BrassYearModel" 477 (mY M_m_argues) := Or.inl ⟨List.mem_of_getElem? (i := 2083) (by decide +kernel), rfl⟩
theorem ml_m_483 : MLk "BrassYearModel" 483 (mY M_m_slips1) := Or.inl ⟨List.mem_of_getElem? (i := 2111) (by decide +kernel), rfl⟩
theorem ml_m_488 : MLk "BrassYearModel" 488 (mY M_m_slipsBy) := Or.inl ⟨List.mem_of_getElem? (i := 2107) (by decide +kernel), rfl⟩
theorem ml_m_491 : MLk "BrassYearModel" 491 (mY M_m_part) := Or.inl ⟨List.mem_of_getElem? (i := 2115) (by decide +kernel), rfl⟩
theorem ml_m_495 : MLk "BrassYearModel" 495 (mY M_m_wholeOf) := Or.inl ⟨List.mem_of_getElem? (i := 2119) (by decide +kernel), rfl⟩
theorem ml_m_499 : MLk "BrassYearModel" 499 (mY M_m_fraction) := Or.inl ⟨List.mem_of_getElem? (i := 2123) (by decide +kernel), rfl⟩
theorem ml_m_513 : MLk "BrassYearModel" 513 (mY M_m_refusesSeed) := Or.inl ⟨List.mem_of_getElem? (i := 2138) (by decide +kernel), rfl⟩
theorem ml_m_517 : MLk "BrassYearModel" 517 (mY M_m_yearsAll) := Or.inl ⟨List.mem_of_getElem? (i := 2143) (by decide +kernel), rfl⟩
theorem ml_m_521 : MLk "BrassYearModel" 521 (mY M_m_remembers) := Or.inl ⟨List.mem_of_getElem? (i := 2163) (by decide +kernel), rfl⟩
theorem ml_m_524 : MLk "BrassYearModel" 524 (mY M_m_becomes) := Or.inl ⟨List.mem_of_getElem? (i := 2167) (by decide +kernel), rfl⟩
theorem ml_m_527 : MLk "BrassYearModel" 527 (mY M_m_denied) := Or.inl ⟨List.mem_of_getElem? (i := 2183) (by decide +kernel), rfl⟩
theorem ml_m_530 : MLk "BrassYearModel" 530 (mY M_m_granted) := Or.inl ⟨List.mem_of_getElem? (i := 2187) (by decide +kernel), rfl⟩
theorem ml_m_60 : MLk "BrassYearModel" 60 (mY M_m_refused) := Or.inl ⟨List.mem_of_getElem? (i := 1521) (by decide +kernel), rfl⟩
theorem ml_m_64 : MLk "BrassYearModel" 64 (mY M_m_good) := Or.inl ⟨List.mem_of_getElem? (i := 1838) (by decide +kernel), rfl⟩
theorem ml_m_67 : MLk "BrassYearModel" 67 (mY M_m_common) := Or.inl ⟨List.mem_of_getElem? (i := 2127) (by decide +kernel), rfl⟩
theorem ml_m_92 : MLk "BrassYearModel" 92 (mY M_m_byteAt) := Or.inl ⟨List.mem_of_getElem? (i := 1638) (by decide +kernel), rfl⟩
theorem ml_m_98 : MLk "BrassYearModel" 98 (mY M_m_isLetter) := Or.inl ⟨List.mem_of_getElem? (i := 1642) (by decide +kernel), rfl⟩
theorem ml_n_74 : MLk "BrassYearModel$Orrery" 74 (mY M_n_isGone) := Or.inl ⟨List.mem_of_getElem? (i := 1793) (by decide +kernel), rfl⟩
theorem ws_cod : Lk (.fieldLink "java/lang/String" 15 "java/lang/String" "coder" "B") := ⟨List.mem_of_getElem? (i := 2233) (by decide +kernel), rfl⟩
theorem ws_comp : Lk (.fieldLink "java/lang/String" 38 "java/lang/String" "COMPACT_STRINGS" "Z") := ⟨List.mem_of_getElem? (i := 1673) (by decide +kernel), rfl⟩
theorem ws_form : Lk (.fieldLink "java/lang/String" 1053 "jdk/internal/util/Preconditions" "SIOOBE_FORMATTER" "Ljava/util/function/BiFunction;") := ⟨List.mem_of_getElem? (i := 1689) (by decide +kernel), rfl⟩
theorem ws_val : Lk (.fieldLink "java/lang/String" 9 "java/lang/String" "value" "[B") := ⟨List.mem_of_getElem? (i := 2232) (by decide +kernel), rfl⟩
