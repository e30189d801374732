/-! THE CHECKS OF EVERY CODE TABLE -/
def am_rt : Option FieldType → Nat
  | none => 0
  | some .int => 1
  | some .boolean => 2
  | some .byte => 3
  | some .char => 4
  | some .long => 5
  | some (.object _) => 6
  | some (.array _) => 6
  | _ => 7
def am_mo (x : am_Me) (cd : am_P) (ml : Nat) : Prop := am_okd x.1.2.1 cd = true ∧ am_oka x.2.1 (Nat.beq x.2.2.2.1 2) x.2.2.2.2.1 x.2.2.2.2.2.1 (am_rt x.1.2.2.2) cd = true ∧ ml = x.1.2.2.1 ∧ plainName x.1.1.cls = true ∧ x.1.1.cls = am_on x.2.1 ∧ (Nat.beq x.2.2.2.1 2 = true → x.1.1.name = "<init>")
theorem ok_0 : am_oka 1 true 1 20 0 cd_0 = true := by decide +kernel
theorem mo_0 : am_mo ((⟨"BecauseOf$Cases", "<init>", "()V"⟩, prog_3_method_1_code, 1, none), 1, 1, 2, 1, 20, 146, 114, 145, 0) cd_0 1 := ⟨dk_0, ok_0, rfl, by decide, rfl, fun _ => rfl⟩
theorem ok_1 : am_oka 4 true 1 20 0 cd_1 = true := by decide +kernel
theorem mo_1 : am_mo ((⟨"BecauseOf$Letters", "<init>", "()V"⟩, prog_6_method_1_code, 1, none), 4, 1, 2, 1, 20, 174, 115, 173, 0) cd_1 1 := ⟨dk_1, ok_1, rfl, by decide, rfl, fun _ => rfl⟩
theorem ok_2 : am_oka 6 true 1 20 0 cd_2 = true := by decide +kernel
theorem mo_2 : am_mo ((⟨"BecauseOf$Reade\x72", "<init>", "()V"⟩, prog_8_method_1_code, 1, none), 6, 1, 2, 1, 20, 197, 116, 196, 0) cd_2 1 := ⟨dk_2, ok_2, rfl, by decide, rfl, fun _ => rfl⟩
theorem ok_3 : am_oka 8 true 1 20 0 cd_3 = true := by decide +kernel
theorem mo_3 : am_mo ((⟨"BecauseOf$Taken", "<init>", "(LBecauseOf$Cases;)V"⟩, prog_10_method_1_code, 2, none), 8, 2, 2, 1, 20, 252, 117, 251, 0) cd_3 2 := ⟨dk_3, ok_3, rfl, by decide, rfl, fun _ => rfl⟩
theorem ok_4 : am_oka 3 true 1 20 0 cd_4 = true := by decide +kernel
theorem mo_4 : am_mo ((⟨"BecauseOf$Fraction", "<init>", "()V"⟩, prog_5_method_1_code, 1, none), 3, 1, 2, 1, 20, 291, 118, 290, 0) cd_4 1 := ⟨dk_4, ok_4, rfl, by decide, rfl, fun _ => rfl⟩
theorem ok_5 : am_oka 5 true 1 20 0 cd_5 = true := by decide +kernel
theorem mo_5 : am_mo ((⟨"BecauseOf$Pairing", "<init>", "()V"⟩, prog_7_method_1_code, 1, none), 5, 1, 2, 1, 20, 305, 119, 304, 0) cd_5 1 := ⟨dk_5, ok_5, rfl, by decide, rfl, fun _ => rfl⟩
theorem ok_6 : am_oka 0 true 1 20 0 cd_6 = true := by decide +kernel
theorem mo_6 : am_mo ((⟨"BecauseOf$Bars", "<init>", "()V"⟩, prog_2_method_1_code, 1, none), 0, 1, 2, 1, 20, 347, 120, 346, 0) cd_6 1 := ⟨dk_6, ok_6, rfl, by decide, rfl, fun _ => rfl⟩
theorem ok_7 : am_oka 7 true 1 20 0 cd_7 = true := by decide +kernel
theorem mo_7 : am_mo ((⟨"BecauseOf$ShortRules", "<init>", "()V"⟩, prog_9_method_1_code, 1, none), 7, 1, 2, 1, 20, 360, 121, 359, 0) cd_7 1 := ⟨dk_7, ok_7, rfl, by decide, rfl, fun _ => rfl⟩
theorem ok_8 : am_oka 2 true 1 20 0 cd_8 = true := by decide +kernel
theorem mo_8 : am_mo ((⟨"BecauseOf$Change", "<init>", "()V"⟩, prog_4_method_1_code, 1, none), 2, 1, 2, 1, 20, 389, 122, 388, 0) cd_8 1 := ⟨dk_8, ok_8, rfl, by decide, rfl, fun _ => rfl⟩
theorem ok_9 : am_oka 11 true 2 41 0 cd_9 = true := by decide +kernel
theorem mo_9 : am_mo ((⟨"BecauseOf", "<init>", "()V"⟩, prog_1_method_1_code, 1, none), 11, 1, 2, 2, 41, 138, 113, 137, 0) cd_9 1 := ⟨dk_9, ok_9, rfl, by decide, rfl, fun _ => rfl⟩
theorem ok_10 : am_oka 12 true 1 20 0 cd_10 = true := by decide +kernel
theorem mo_10 : am_mo ((⟨"BecauseOfModel", "<init>", "()V"⟩, prog_14_method_1_code, 1, none), 12, 1, 2, 1, 20, 1273, 123, 1272, 0) cd_10 1 := ⟨dk_10, ok_10, rfl, by decide, rfl, fun _ => rfl⟩
theorem ok_11 : am_oka 11 false 0 0 2 cd_11 = true := by decide +kernel
theorem mo_11 : am_mo ((⟨"BecauseOf", "isTrait", "(I)Z"⟩, prog_1_method_40_code, 1, (some (.boolean))), 11, 1, 0, 0, 0, 462, 113, 461, 0) cd_11 1 := ⟨dk_11, ok_11, rfl, by decide, rfl, fun h => absurd h (by decide)⟩
theorem ok_12 : am_oka 11 false 0 0 2 cd_12 = true := by decide +kernel
theorem mo_12 : am_mo ((⟨"BecauseOf", "isOffice", "(I)Z"⟩, prog_1_method_42_code, 1, (some (.boolean))), 11, 1, 0, 0, 0, 465, 113, 464, 0) cd_12 1 := ⟨dk_12, ok_12, rfl, by decide, rfl, fun h => absurd h (by decide)⟩
theorem ok_13 : am_oka 13 false 0 0 0 cd_13 = true := by decide +kernel
theorem mo_13 : am_mo ((⟨"java/util/Arrays", "rangeCheck", "(III)V"⟩, prog_22_method_30_code, 3, none), 13, 3, 0, 0, 0, 475, 124, 474, 0) cd_13 3 := ⟨dk_13, ok_13, rfl, by decide, rfl, fun h => absurd h (by decide)⟩
theorem ok_14 : am_oka 13 false 1 22 0 cd_14 = true := by decide +kernel
theorem mo_14 : am_mo ((⟨"java/util/Arrays", "fill", "([IIII)V"⟩, prog_22_method_104_code, 5, none), 13, 4, 0, 1, 22, 472, 124, 471, 0) cd_14 5 := ⟨dk_14, ok_14, rfl, by decide, rfl, fun h => absurd h (by decide)⟩
theorem ok_15 : am_oka 1 false 2 46 1 cd_15 = true := by decide +kernel
theorem mo_15 : am_mo ((⟨"BecauseOf$Cases", "add", "(IIII)I"⟩, prog_3_method_3_code, 5, (some (.int))), 1, 5, 1, 2, 46, 469, 114, 467, 468) cd_15 5 := ⟨dk_15, ok_15, rfl, by decide, rfl, fun h => absurd h (by decide)⟩
theorem ok_16 : am_oka 11 false 3 70 1 cd_16 = true := by decide +kernel
theorem mo_16 : am_mo ((⟨"BecauseOf", "asks", "(IIII)I"⟩, prog_1_method_2_code, 5, (some (.int))), 11, 5, 1, 3, 70, 459, 113, 457, 458) cd_16 5 := ⟨dk_16, ok_16, rfl, by decide, rfl, fun h => absurd h (by decide)⟩
theorem ok_17 : am_oka 12 false 0 0 2 cd_17 = true := by decide +kernel
theorem mo_17 : am_mo ((⟨"BecauseOfModel", "in", "(JJJ)Z"⟩, prog_14_method_2_code, 6, (some (.boolean))), 12, 3, 0, 0, 0, 1453, 123, 1452, 0) cd_17 6 := ⟨dk_17, ok_17, rfl, by decide, rfl, fun h => absurd h (by decide)⟩
theorem ok_18 : am_oka 12 false 1 25 1 cd_18 = true := by decide +kernel
theorem mo_18 : am_mo ((⟨"BecauseOfModel", "asks", "(IIII)I"⟩, prog_14_method_3_code, 7, (some (.int))), 12, 5, 1, 1, 25, 1450, 123, 1448, 1449) cd_18 7 := ⟨dk_18, ok_18, rfl, by decide, rfl, fun h => absurd h (by decide)⟩
theorem ok_19 : am_oka 1 false 0 0 2 cd_19 = true := by decide +kernel
theorem mo_19 : am_mo ((⟨"BecauseOf$Cases", "has", "(I)Z"⟩, prog_3_method_2_code, 2, (some (.boolean))), 1, 2, 1, 0, 0, 483, 114, 481, 482) cd_19 2 := ⟨dk_19, ok_19, rfl, by decide, rfl, fun h => absurd h (by decide)⟩
theorem ok_20 : am_oka 11 false 0 0 2 cd_20 = true := by decide +kernel
theorem mo_20 : am_mo ((⟨"BecauseOf", "isMark", "(I)Z"⟩, prog_1_method_44_code, 1, (some (.boolean))), 11, 1, 0, 0, 0, 486, 113, 485, 0) cd_20 1 := ⟨dk_20, ok_20, rfl, by decide, rfl, fun h => absurd h (by decide)⟩
theorem ok_21 : am_oka 1 false 1 21 1 cd_21 = true := by decide +kernel
theorem mo_21 : am_mo ((⟨"BecauseOf$Cases", "markOf", "(II)I"⟩, prog_3_method_8_code, 3, (some (.int))), 1, 3, 1, 1, 21, 490, 114, 488, 489) cd_21 3 := ⟨dk_21, ok_21, rfl, by decide, rfl, fun h => absurd h (by decide)⟩
theorem ok_22 : am_oka 1 false 1 21 0 cd_22 = true := by decide +kernel
theorem mo_22 : am_mo ((⟨"BecauseOf$Cases", "setMark", "(III)V"⟩, prog_3_method_9_code, 4, none), 1, 4, 1, 1, 21, 496, 114, 494, 495) cd_22 4 := ⟨dk_22, ok_22, rfl, by decide, rfl, fun h => absurd h (by decide)⟩
theorem ok_23 : am_oka 11 false 2 44 1 cd_23 = true := by decide +kernel
theorem mo_23 : am_mo ((⟨"BecauseOf", "mark", "(III)I"⟩, prog_1_method_3_code, 5, (some (.int))), 11, 4, 1, 2, 44, 479, 113, 477, 478) cd_23 5 := ⟨dk_23, ok_23, rfl, by decide, rfl, fun h => absurd h (by decide)⟩
theorem ok_24 : am_oka 12 false 0 0 2 cd_24 = true := by decide +kernel
theorem mo_24 : am_mo ((⟨"BecauseOfModel", "isCase", "(I)Z"⟩, prog_14_method_4_code, 2, (some (.boolean))), 12, 2, 1, 0, 0, 1464, 123, 1463, 52) cd_24 2 := ⟨dk_24, ok_24, rfl, by decide, rfl, fun h => absurd h (by decide)⟩
theorem ok_25 : am_oka 12 false 1 25 1 cd_25 = true := by decide +kernel
theorem mo_25 : am_mo ((⟨"BecauseOfModel", "mark", "(III)I"⟩, prog_14_method_5_code, 5, (some (.int))), 12, 4, 1, 1, 25, 1460, 123, 1458, 1459) cd_25 5 := ⟨dk_25, ok_25, rfl, by decide, rfl, fun h => absurd h (by decide)⟩
theorem ok_26 : am_oka 1 false 1 21 1 cd_26 = true := by decide +kernel
theorem mo_26 : am_mo ((⟨"BecauseOf$Cases", "traitOf", "(I)I"⟩, prog_3_method_4_code, 2, (some (.int))), 1, 2, 1, 1, 21, 504, 114, 502, 503) cd_26 2 := ⟨dk_26, ok_26, rfl, by decide, rfl, fun h => absurd h (by decide)⟩
theorem ok_27 : am_oka 1 false 1 21 1 cd_27 = true := by decide +kernel
theorem mo_27 : am_mo ((⟨"BecauseOf$Cases", "officeOf", "(I)I"⟩, prog_3_method_5_code, 2, (some (.int))), 1, 2, 1, 1, 21, 508, 114, 506, 507) cd_27 2 := ⟨dk_27, ok_27, rfl, by decide, rfl, fun h => absurd h (by decide)⟩
theorem ok_28 : am_oka 1 false 1 21 1 cd_28 = true := by decide +kernel
theorem mo_28 : am_mo ((⟨"BecauseOf$Cases", "stageOf", "(I)I"⟩, prog_3_method_6_code, 2, (some (.int))), 1, 2, 1, 1, 21, 512, 114, 510, 511) cd_28 2 := ⟨dk_28, ok_28, rfl, by decide, rfl, fun h => absurd h (by decide)⟩
theorem ok_29 : am_oka 1 false 1 21 1 cd_29 = true := by decide +kernel
theorem mo_29 : am_mo ((⟨"BecauseOf$Cases", "cameOf", "(I)I"⟩, prog_3_method_7_code, 2, (some (.int))), 1, 2, 1, 1, 21, 516, 114, 514, 515) cd_29 2 := ⟨dk_29, ok_29, rfl, by decide, rfl, fun h => absurd h (by decide)⟩
theorem ok_30 : am_oka 11 false 2 43 1 cd_30 = true := by decide +kernel
theorem mo_30 : am_mo ((⟨"BecauseOf", "told", "(II)I"⟩, prog_1_method_4_code, 3, (some (.int))), 11, 3, 1, 2, 43, 500, 113, 498, 499) cd_30 3 := ⟨dk_30, ok_30, rfl, by decide, rfl, fun h => absurd h (by decide)⟩
theorem ok_31 : am_oka 12 false 1 25 1 cd_31 = true := by decide +kernel
theorem mo_31 : am_mo ((⟨"BecauseOfModel", "told", "(II)I"⟩, prog_14_method_6_code, 3, (some (.int))), 12, 3, 1, 1, 25, 1470, 123, 1468, 1469) cd_31 3 := ⟨dk_31, ok_31, rfl, by decide, rfl, fun h => absurd h (by decide)⟩
theorem ok_32 : am_oka 6 false 0 0 0 cd_32 = true := by decide +kernel
theorem mo_32 : am_mo ((⟨"BecauseOf$Reade\x72", "append", "(I)V"⟩, prog_8_method_2_code, 3, none), 6, 2, 1, 0, 0, 524, 116, 522, 523) cd_32 3 := ⟨dk_32, ok_32, rfl, by decide, rfl, fun h => absurd h (by decide)⟩
theorem ok_33 : am_oka 11 false 1 22 1 cd_33 = true := by decide +kernel
theorem mo_33 : am_mo ((⟨"BecauseOf", "feed", "(IIIII)I"⟩, prog_1_method_5_code, 6, (some (.int))), 11, 6, 1, 1, 22, 520, 113, 518, 519) cd_33 6 := ⟨dk_33, ok_33, rfl, by decide, rfl, fun h => absurd h (by decide)⟩
theorem ok_34 : am_oka 12 false 0 0 0 cd_34 = true := by decide +kernel
theorem mo_34 : am_mo ((⟨"BecauseOfModel", "fou\x72", "(I)V"⟩, prog_14_method_10_code, 3, none), 12, 2, 1, 0, 0, 1478, 123, 1477, 53) cd_34 3 := ⟨dk_34, ok_34, rfl, by decide, rfl, fun h => absurd h (by decide)⟩
theorem ok_35 : am_oka 12 false 1 22 1 cd_35 = true := by decide +kernel
theorem mo_35 : am_mo ((⟨"BecauseOfModel", "feed", "(IIIII)I"⟩, prog_14_method_11_code, 6, (some (.int))), 12, 6, 1, 1, 22, 1474, 123, 1472, 1473) cd_35 6 := ⟨dk_35, ok_35, rfl, by decide, rfl, fun h => absurd h (by decide)⟩
theorem ok_36 : am_oka 11 false 0 0 1 cd_36 = true := by decide +kernel
theorem mo_36 : am_mo ((⟨"BecauseOf", "end", "(I)I"⟩, prog_1_method_6_code, 2, (some (.int))), 11, 2, 1, 0, 0, 528, 113, 526, 527) cd_36 2 := ⟨dk_36, ok_36, rfl, by decide, rfl, fun h => absurd h (by decide)⟩
theorem ok_37 : am_oka 12 false 0 0 1 cd_37 = true := by decide +kernel
theorem mo_37 : am_mo ((⟨"BecauseOfModel", "end", "(I)I"⟩, prog_14_method_12_code, 2, (some (.int))), 12, 2, 1, 0, 0, 1482, 123, 1480, 1481) cd_37 2 := ⟨dk_37, ok_37, rfl, by decide, rfl, fun h => absurd h (by decide)⟩
theorem ok_38 : am_oka 6 false 0 0 1 cd_38 = true := by decide +kernel
theorem mo_38 : am_mo ((⟨"BecauseOf$Reade\x72", "byteAt", "(I)I"⟩, prog_8_method_3_code, 2, (some (.int))), 6, 2, 1, 0, 0, 548, 116, 547, 2) cd_38 2 := ⟨dk_38, ok_38, rfl, by decide, rfl, fun h => absurd h (by decide)⟩
theorem ok_39 : am_oka 6 false 0 0 2 cd_39 = true := by decide +kernel
theorem mo_39 : am_mo ((⟨"BecauseOf$Reade\x72", "isLette\x72", "(I)Z"⟩, prog_8_method_11_code, 1, (some (.boolean))), 6, 1, 0, 0, 0, 551, 116, 550, 0) cd_39 1 := ⟨dk_39, ok_39, rfl, by decide, rfl, fun h => absurd h (by decide)⟩
theorem ok_40 : am_oka 6 false 0 0 2 cd_40 = true := by decide +kernel
theorem mo_40 : am_mo ((⟨"BecauseOf$Reade\x72", "isDigit", "(I)Z"⟩, prog_8_method_12_code, 1, (some (.boolean))), 6, 1, 0, 0, 0, 554, 116, 553, 0) cd_40 1 := ⟨dk_40, ok_40, rfl, by decide, rfl, fun h => absurd h (by decide)⟩
theorem ok_41 : am_oka 14 false 0 0 3 cd_41 = true := by decide +kernel
theorem mo_41 : am_mo ((⟨"java/lang/String", "code\x72", "()B"⟩, prog_18_method_152_code, 1, (some (.byte))), 14, 1, 1, 0, 0, 567, 125, 565, 566) cd_41 1 := ⟨dk_41, ok_41, rfl, by decide, rfl, fun h => absurd h (by decide)⟩
theorem ok_42 : am_oka 14 false 1 20 1 cd_42 = true := by decide +kernel
theorem mo_42 : am_mo ((⟨"java/lang/String", "length", "()I"⟩, prog_18_method_54_code, 1, (some (.int))), 14, 1, 1, 1, 20, 563, 125, 561, 562) cd_42 1 := ⟨dk_42, ok_42, rfl, by decide, rfl, fun h => absurd h (by decide)⟩
theorem ok_43 : am_oka 14 false 0 0 2 cd_43 = true := by decide +kernel
theorem mo_43 : am_mo ((⟨"java/lang/String", "isLatin1", "()Z"⟩, prog_18_method_154_code, 1, (some (.boolean))), 14, 1, 1, 0, 0, 577, 125, 575, 576) cd_43 1 := ⟨dk_43, ok_43, rfl, by decide, rfl, fun h => absurd h (by decide)⟩
theorem ok_44 : am_oka 15 false 0 0 1 cd_44 = true := by decide +kernel
theorem mo_44 : am_mo ((⟨"jdk/internal/util/Preconditions", "checkIndex", "(IILjava/util/function/BiFunction;)I"⟩, prog_23_method_11_code, 3, (some (.int))), 15, 3, 0, 0, 0, 588, 127, 587, 0) cd_44 3 := ⟨dk_44, ok_44, rfl, by decide, rfl, fun h => absurd h (by decide)⟩
theorem ok_45 : am_oka 14 false 1 22 0 cd_45 = true := by decide +kernel
theorem mo_45 : am_mo ((⟨"java/lang/String", "checkIndex", "(II)V"⟩, prog_18_method_155_code, 2, none), 14, 2, 0, 1, 22, 583, 125, 582, 0) cd_45 2 := ⟨dk_45, ok_45, rfl, by decide, rfl, fun h => absurd h (by decide)⟩
theorem ok_46 : am_oka 16 false 2 43 4 cd_46 = true := by decide +kernel
theorem mo_46 : am_mo ((⟨"java/lang/StringLatin1", "charAt", "([BI)C"⟩, prog_19_method_2_code, 2, (some (.char))), 16, 2, 0, 2, 43, 580, 126, 579, 0) cd_46 2 := ⟨dk_46, ok_46, rfl, by decide, rfl, fun h => absurd h (by decide)⟩
theorem ok_47 : am_oka 14 false 3 64 4 cd_47 = true := by decide +kernel
theorem mo_47 : am_mo ((⟨"java/lang/String", "charAt", "(I)C"⟩, prog_18_method_56_code, 2, (some (.char))), 14, 2, 1, 3, 64, 573, 125, 571, 572) cd_47 2 := ⟨dk_47, ok_47, rfl, by decide, rfl, fun h => absurd h (by decide)⟩
theorem ok_48 : am_oka 6 false 4 85 1 cd_48 = true := by decide +kernel
theorem mo_48 : am_mo ((⟨"BecauseOf$Reade\x72", "wordOf", "(II)I"⟩, prog_8_method_9_code, 7, (some (.int))), 6, 3, 1, 4, 85, 558, 116, 557, 3) cd_48 7 := ⟨dk_48, ok_48, rfl, by decide, rfl, fun h => absurd h (by decide)⟩
theorem ok_49 : am_oka 6 false 0 0 0 cd_49 = true := by decide +kernel
theorem mo_49 : am_mo ((⟨"BecauseOf$Reade\x72", "put", "(III)V"⟩, prog_8_method_10_code, 4, none), 6, 4, 1, 0, 0, 611, 116, 610, 4) cd_49 4 := ⟨dk_49, ok_49, rfl, by decide, rfl, fun h => absurd h (by decide)⟩
theorem ok_50 : am_oka 6 false 1 23 1 cd_50 = true := by decide +kernel
theorem mo_50 : am_mo ((⟨"BecauseOf$Reade\x72", "scanNumbe\x72", "(I)I"⟩, prog_8_method_8_code, 4, (some (.int))), 6, 2, 1, 1, 23, 615, 116, 614, 5) cd_50 4 := ⟨dk_50, ok_50, rfl, by decide, rfl, fun h => absurd h (by decide)⟩
theorem ok_51 : am_oka 6 false 5 111 1 cd_51 = true := by decide +kernel
theorem mo_51 : am_mo ((⟨"BecauseOf$Reade\x72", "scan", "(I)I"⟩, prog_8_method_7_code, 4, (some (.int))), 6, 2, 1, 5, 111, 544, 116, 543, 1) cd_51 4 := ⟨dk_51, ok_51, rfl, by decide, rfl, fun h => absurd h (by decide)⟩
theorem ok_52 : am_oka 6 false 6 134 0 cd_52 = true := by decide +kernel
theorem mo_52 : am_mo ((⟨"BecauseOf$Reade\x72", "scanAll", "()V"⟩, prog_8_method_6_code, 3, none), 6, 1, 1, 6, 134, 540, 116, 539, 0) cd_52 3 := ⟨dk_52, ok_52, rfl, by decide, rfl, fun h => absurd h (by decide)⟩
theorem ok_53 : am_oka 10 true 1 20 0 cd_53 = true := by decide +kernel
theorem mo_53 : am_mo ((⟨"BecauseOf$View", "<init>", "()V"⟩, prog_12_method_1_code, 1, none), 10, 1, 2, 1, 20, 620, 129, 619, 0) cd_53 1 := ⟨dk_53, ok_53, rfl, by decide, rfl, fun _ => rfl⟩
theorem ok_54 : am_oka 6 false 0 0 1 cd_54 = true := by decide +kernel
theorem mo_54 : am_mo ((⟨"BecauseOf$Reade\x72", "kind", "()I"⟩, prog_8_method_13_code, 1, (some (.int))), 6, 1, 1, 0, 0, 652, 116, 651, 7) cd_54 1 := ⟨dk_54, ok_54, rfl, by decide, rfl, fun h => absurd h (by decide)⟩
theorem ok_55 : am_oka 6 false 0 0 0 cd_55 = true := by decide +kernel
theorem mo_55 : am_mo ((⟨"BecauseOf$Reade\x72", "blame", "(I)V"⟩, prog_8_method_15_code, 3, none), 6, 2, 1, 0, 0, 656, 116, 655, 8) cd_55 3 := ⟨dk_55, ok_55, rfl, by decide, rfl, fun h => absurd h (by decide)⟩
theorem ok_56 : am_oka 6 false 0 0 0 cd_56 = true := by decide +kernel
theorem mo_56 : am_mo ((⟨"BecauseOf$Reade\x72", "await", "(I)V"⟩, prog_8_method_21_code, 2, none), 6, 2, 1, 0, 0, 668, 116, 667, 11) cd_56 2 := ⟨dk_56, ok_56, rfl, by decide, rfl, fun h => absurd h (by decide)⟩
theorem ok_57 : am_oka 6 false 1 22 0 cd_57 = true := by decide +kernel
theorem mo_57 : am_mo ((⟨"BecauseOf$Reade\x72", "open", "(I)V"⟩, prog_8_method_20_code, 4, none), 6, 2, 1, 1, 22, 664, 116, 663, 10) cd_57 4 := ⟨dk_57, ok_57, rfl, by decide, rfl, fun h => absurd h (by decide)⟩
theorem ok_58 : am_oka 6 false 0 0 1 cd_58 = true := by decide +kernel
theorem mo_58 : am_mo ((⟨"BecauseOf$Reade\x72", "value", "()I"⟩, prog_8_method_14_code, 1, (some (.int))), 6, 1, 1, 0, 0, 684, 116, 683, 15) cd_58 1 := ⟨dk_58, ok_58, rfl, by decide, rfl, fun h => absurd h (by decide)⟩
theorem ok_59 : am_oka 6 false 0 0 0 cd_59 = true := by decide +kernel
theorem mo_59 : am_mo ((⟨"BecauseOf$Reade\x72", "addStep", "(II)V"⟩, prog_8_method_28_code, 3, none), 6, 3, 1, 0, 0, 688, 116, 687, 16) cd_59 3 := ⟨dk_59, ok_59, rfl, by decide, rfl, fun h => absurd h (by decide)⟩
theorem ok_60 : am_oka 6 false 1 22 0 cd_60 = true := by decide +kernel
theorem mo_60 : am_mo ((⟨"BecauseOf$Reade\x72", "readValue", "(I)V"⟩, prog_8_method_26_code, 3, none), 6, 2, 1, 1, 22, 680, 116, 679, 14) cd_60 3 := ⟨dk_60, ok_60, rfl, by decide, rfl, fun h => absurd h (by decide)⟩
theorem ok_61 : am_oka 6 false 2 44 0 cd_61 = true := by decide +kernel
theorem mo_61 : am_mo ((⟨"BecauseOf$Reade\x72", "readSum", "()V"⟩, prog_8_method_25_code, 3, none), 6, 1, 1, 2, 44, 676, 116, 675, 13) cd_61 3 := ⟨dk_61, ok_61, rfl, by decide, rfl, fun h => absurd h (by decide)⟩
theorem ok_62 : am_oka 6 false 1 22 1 cd_62 = true := by decide +kernel
theorem mo_62 : am_mo ((⟨"BecauseOf$Reade\x72", "readSign", "()I"⟩, prog_8_method_27_code, 2, (some (.int))), 6, 1, 1, 1, 22, 694, 116, 693, 17) cd_62 2 := ⟨dk_62, ok_62, rfl, by decide, rfl, fun h => absurd h (by decide)⟩
theorem ok_63 : am_oka 6 false 3 66 0 cd_63 = true := by decide +kernel
theorem mo_63 : am_mo ((⟨"BecauseOf$Reade\x72", "readComparison", "()V"⟩, prog_8_method_24_code, 2, none), 6, 1, 1, 3, 66, 672, 116, 671, 12) cd_63 2 := ⟨dk_63, ok_63, rfl, by decide, rfl, fun h => absurd h (by decide)⟩
theorem ok_64 : am_oka 6 false 1 22 0 cd_64 = true := by decide +kernel
theorem mo_64 : am_mo ((⟨"BecauseOf$Reade\x72", "settle", "(I)V"⟩, prog_8_method_22_code, 3, none), 6, 2, 1, 1, 22, 702, 116, 701, 19) cd_64 3 := ⟨dk_64, ok_64, rfl, by decide, rfl, fun h => absurd h (by decide)⟩
theorem ok_65 : am_oka 6 false 2 44 2 cd_65 = true := by decide +kernel
theorem mo_65 : am_mo ((⟨"BecauseOf$Reade\x72", "readBehindFact", "()Z"⟩, prog_8_method_23_code, 2, (some (.boolean))), 6, 1, 1, 2, 44, 698, 116, 697, 18) cd_65 2 := ⟨dk_65, ok_65, rfl, by decide, rfl, fun h => absurd h (by decide)⟩
theorem ok_66 : am_oka 13 false 1 26 6 cd_66 = true := by decide +kernel
theorem mo_66 : am_mo ((⟨"java/util/Arrays", "copyOf", "([II)[I"⟩, prog_22_method_123_code, 3, (some (.array .int))), 13, 2, 0, 1, 26, 707, 124, 706, 0) cd_66 3 := ⟨dk_66, ok_66, rfl, by decide, rfl, fun h => absurd h (by decide)⟩
theorem ok_67 : am_oka 9 true 1 20 0 cd_67 = true := by decide +kernel
theorem mo_67 : am_mo ((⟨"BecauseOf$Test", "<init>", "([II)V"⟩, prog_11_method_1_code, 3, none), 9, 3, 2, 1, 20, 723, 130, 722, 0) cd_67 3 := ⟨dk_67, ok_67, rfl, by decide, rfl, fun _ => rfl⟩
theorem ok_68 : am_oka 6 false 4 87 6 cd_68 = true := by decide +kernel
theorem mo_68 : am_mo ((⟨"BecauseOf$Reade\x72", "readTest", "()LBecauseOf$Test;"⟩, prog_8_method_19_code, 4, (some (.object "BecauseOf$Test"))), 6, 1, 1, 4, 87, 660, 116, 659, 9) cd_68 4 := ⟨dk_68, ok_68, rfl, by decide, rfl, fun h => absurd h (by decide)⟩
theorem ok_69 : am_oka 6 false 1 22 1 cd_69 = true := by decide +kernel
theorem mo_69 : am_mo ((⟨"BecauseOf$Reade\x72", "readNumbe\x72", "(II)I"⟩, prog_8_method_18_code, 4, (some (.int))), 6, 3, 1, 1, 22, 736, 116, 735, 20) cd_69 4 := ⟨dk_69, ok_69, rfl, by decide, rfl, fun h => absurd h (by decide)⟩
theorem ok_70 : am_oka 6 false 1 22 1 cd_70 = true := by decide +kernel
theorem mo_70 : am_mo ((⟨"BecauseOf$Reade\x72", "readMark", "(I)I"⟩, prog_8_method_17_code, 3, (some (.int))), 6, 2, 1, 1, 22, 740, 116, 739, 21) cd_70 3 := ⟨dk_70, ok_70, rfl, by decide, rfl, fun h => absurd h (by decide)⟩
theorem ok_71 : am_oka 10 false 1 20 0 cd_71 = true := by decide +kernel
theorem mo_71 : am_mo ((⟨"BecauseOf$View", "setNea\x72", "(II)V"⟩, prog_12_method_3_code, 3, none), 10, 3, 1, 1, 20, 744, 129, 742, 743) cd_71 3 := ⟨dk_71, ok_71, rfl, by decide, rfl, fun h => absurd h (by decide)⟩
theorem ok_72 : am_oka 6 false 5 110 0 cd_72 = true := by decide +kernel
theorem mo_72 : am_mo ((⟨"BecauseOf$Reade\x72", "readClause", "(LBecauseOf$View;)V"⟩, prog_8_method_16_code, 5, none), 6, 2, 1, 5, 110, 648, 116, 647, 6) cd_72 5 := ⟨dk_72, ok_72, rfl, by decide, rfl, fun h => absurd h (by decide)⟩
theorem ok_73 : am_oka 6 false 7 156 6 cd_73 = true := by decide +kernel
theorem mo_73 : am_mo ((⟨"BecauseOf$Reade\x72", "readView", "()LBecauseOf$View;"⟩, prog_8_method_4_code, 3, (some (.object "BecauseOf$View"))), 6, 1, 1, 7, 156, 536, 116, 534, 535) cd_73 3 := ⟨dk_73, ok_73, rfl, by decide, rfl, fun h => absurd h (by decide)⟩
theorem ok_74 : am_oka 11 false 8 178 1 cd_74 = true := by decide +kernel
theorem mo_74 : am_mo ((⟨"BecauseOf", "view", "()I"⟩, prog_1_method_7_code, 2, (some (.int))), 11, 1, 1, 8, 178, 532, 113, 530, 531) cd_74 2 := ⟨dk_74, ok_74, rfl, by decide, rfl, fun h => absurd h (by decide)⟩
theorem ok_75 : am_oka 12 false 0 0 0 cd_75 = true := by decide +kernel
theorem mo_75 : am_mo ((⟨"BecauseOfModel", "begins", "(I)V"⟩, prog_14_method_34_code, 2, none), 12, 2, 1, 0, 0, 1490, 123, 1489, 54) cd_75 2 := ⟨dk_75, ok_75, rfl, by decide, rfl, fun h => absurd h (by decide)⟩
theorem ok_76 : am_oka 12 false 0 0 1 cd_76 = true := by decide +kernel
theorem mo_76 : am_mo ((⟨"BecauseOfModel", "see", "()I"⟩, prog_14_method_14_code, 1, (some (.int))), 12, 1, 1, 0, 0, 1498, 123, 1497, 56) cd_76 1 := ⟨dk_76, ok_76, rfl, by decide, rfl, fun h => absurd h (by decide)⟩
theorem ok_77 : am_oka 12 false 0 0 2 cd_77 = true := by decide +kernel
theorem mo_77 : am_mo ((⟨"BecauseOfModel", "isLette\x72", "(I)Z"⟩, prog_14_method_16_code, 2, (some (.boolean))), 12, 2, 1, 0, 0, 1507, 123, 1506, 58) cd_77 2 := ⟨dk_77, ok_77, rfl, by decide, rfl, fun h => absurd h (by decide)⟩
theorem ok_78 : am_oka 12 false 0 0 2 cd_78 = true := by decide +kernel
theorem mo_78 : am_mo ((⟨"BecauseOfModel", "isDigit", "(I)Z"⟩, prog_14_method_15_code, 2, (some (.boolean))), 12, 2, 1, 0, 0, 1511, 123, 1510, 59) cd_78 2 := ⟨dk_78, ok_78, rfl, by decide, rfl, fun h => absurd h (by decide)⟩
theorem ok_79 : am_oka 12 false 1 21 2 cd_79 = true := by decide +kernel
theorem mo_79 : am_mo ((⟨"BecauseOfModel", "isWord", "(J)Z"⟩, prog_14_method_17_code, 6, (some (.boolean))), 12, 2, 1, 1, 21, 1503, 123, 1502, 57) cd_79 6 := ⟨dk_79, ok_79, rfl, by decide, rfl, fun h => absurd h (by decide)⟩
theorem ok_80 : am_oka 12 false 0 0 2 cd_80 = true := by decide +kernel
theorem mo_80 : am_mo ((⟨"BecauseOfModel", "fails", "(II)Z"⟩, prog_14_method_13_code, 3, (some (.boolean))), 12, 3, 1, 0, 0, 1515, 123, 1514, 60) cd_80 3 := ⟨dk_80, ok_80, rfl, by decide, rfl, fun h => absurd h (by decide)⟩
theorem ok_81 : am_oka 12 false 1 21 0 cd_81 = true := by decide +kernel
theorem mo_81 : am_mo ((⟨"BecauseOfModel", "passWord", "()V"⟩, prog_14_method_21_code, 1, none), 12, 1, 1, 1, 21, 1519, 123, 1518, 61) cd_81 1 := ⟨dk_81, ok_81, rfl, by decide, rfl, fun h => absurd h (by decide)⟩
theorem ok_82 : am_oka 12 false 1 22 2 cd_82 = true := by decide +kernel
theorem mo_82 : am_mo ((⟨"BecauseOfModel", "opens", "(I)Z"⟩, prog_14_method_28_code, 2, (some (.boolean))), 12, 2, 1, 1, 22, 1532, 123, 1531, 64) cd_82 2 := ⟨dk_82, ok_82, rfl, by decide, rfl, fun h => absurd h (by decide)⟩
theorem ok_83 : am_oka 12 false 1 25 2 cd_83 = true := by decide +kernel
theorem mo_83 : am_mo ((⟨"BecauseOfModel", "numbe\x72", "(II)Z"⟩, prog_14_method_19_code, 5, (some (.boolean))), 12, 3, 1, 1, 25, 1548, 123, 1547, 68) cd_83 5 := ⟨dk_83, ok_83, rfl, by decide, rfl, fun h => absurd h (by decide)⟩
theorem ok_84 : am_oka 12 false 1 22 2 cd_84 = true := by decide +kernel
theorem mo_84 : am_mo ((⟨"BecauseOfModel", "makes", "(I)Z"⟩, prog_14_method_23_code, 2, (some (.boolean))), 12, 2, 1, 1, 22, 1552, 123, 1551, 69) cd_84 2 := ⟨dk_84, ok_84, rfl, by decide, rfl, fun h => absurd h (by decide)⟩
theorem ok_85 : am_oka 12 false 0 0 0 cd_85 = true := by decide +kernel
theorem mo_85 : am_mo ((⟨"BecauseOfModel", "puts", "(II)V"⟩, prog_14_method_22_code, 3, none), 12, 3, 1, 0, 0, 1556, 123, 1555, 70) cd_85 3 := ⟨dk_85, ok_85, rfl, by decide, rfl, fun h => absurd h (by decide)⟩
theorem ok_86 : am_oka 12 false 2 46 1 cd_86 = true := by decide +kernel
theorem mo_86 : am_mo ((⟨"BecauseOfModel", "wordHere", "()I"⟩, prog_14_method_20_code, 2, (some (.int))), 12, 1, 1, 2, 46, 1560, 123, 1559, 71) cd_86 2 := ⟨dk_86, ok_86, rfl, by decide, rfl, fun h => absurd h (by decide)⟩
theorem ok_87 : am_oka 12 false 3 67 2 cd_87 = true := by decide +kernel
theorem mo_87 : am_mo ((⟨"BecauseOfModel", "value", "()Z"⟩, prog_14_method_24_code, 3, (some (.boolean))), 12, 1, 1, 3, 67, 1544, 123, 1543, 67) cd_87 3 := ⟨dk_87, ok_87, rfl, by decide, rfl, fun h => absurd h (by decide)⟩
theorem ok_88 : am_oka 12 false 4 89 2 cd_88 = true := by decide +kernel
theorem mo_88 : am_mo ((⟨"BecauseOfModel", "sum", "()Z"⟩, prog_14_method_25_code, 2, (some (.boolean))), 12, 1, 1, 4, 89, 1540, 123, 1539, 66) cd_88 2 := ⟨dk_88, ok_88, rfl, by decide, rfl, fun h => absurd h (by decide)⟩
theorem ok_89 : am_oka 12 false 5 110 2 cd_89 = true := by decide +kernel
theorem mo_89 : am_mo ((⟨"BecauseOfModel", "compare", "()Z"⟩, prog_14_method_26_code, 5, (some (.boolean))), 12, 1, 1, 5, 110, 1536, 123, 1535, 65) cd_89 5 := ⟨dk_89, ok_89, rfl, by decide, rfl, fun h => absurd h (by decide)⟩
theorem ok_90 : am_oka 12 false 6 134 2 cd_90 = true := by decide +kernel
theorem mo_90 : am_mo ((⟨"BecauseOfModel", "fact", "()Z"⟩, prog_14_method_29_code, 3, (some (.boolean))), 12, 1, 1, 6, 134, 1527, 123, 1526, 63) cd_90 3 := ⟨dk_90, ok_90, rfl, by decide, rfl, fun h => absurd h (by decide)⟩
theorem ok_91 : am_oka 12 false 1 22 0 cd_91 = true := by decide +kernel
theorem mo_91 : am_mo ((⟨"BecauseOfModel", "settles", "(I)V"⟩, prog_14_method_27_code, 2, none), 12, 2, 1, 1, 22, 1574, 123, 1573, 73) cd_91 2 := ⟨dk_91, ok_91, rfl, by decide, rfl, fun h => absurd h (by decide)⟩
theorem ok_92 : am_oka 12 false 0 0 2 cd_92 = true := by decide +kernel
theorem mo_92 : am_mo ((⟨"BecauseOfModel", "isInside", "()Z"⟩, prog_14_method_30_code, 2, (some (.boolean))), 12, 1, 1, 0, 0, 1578, 123, 1577, 74) cd_92 2 := ⟨dk_92, ok_92, rfl, by decide, rfl, fun h => absurd h (by decide)⟩
theorem ok_93 : am_oka 12 false 2 43 0 cd_93 = true := by decide +kernel
theorem mo_93 : am_mo ((⟨"BecauseOfModel", "closes", "()V"⟩, prog_14_method_31_code, 1, none), 12, 1, 1, 2, 43, 1570, 123, 1569, 72) cd_93 1 := ⟨dk_93, ok_93, rfl, by decide, rfl, fun h => absurd h (by decide)⟩
theorem ok_94 : am_oka 12 false 7 156 2 cd_94 = true := by decide +kernel
theorem mo_94 : am_mo ((⟨"BecauseOfModel", "test", "()Z"⟩, prog_14_method_32_code, 3, (some (.boolean))), 12, 1, 1, 7, 156, 1523, 123, 1522, 62) cd_94 3 := ⟨dk_94, ok_94, rfl, by decide, rfl, fun h => absurd h (by decide)⟩
theorem ok_95 : am_oka 12 false 8 178 2 cd_95 = true := by decide +kernel
theorem mo_95 : am_mo ((⟨"BecauseOfModel", "clauseOf", "(I)Z"⟩, prog_14_method_33_code, 6, (some (.boolean))), 12, 2, 1, 8, 178, 1494, 123, 1493, 55) cd_95 6 := ⟨dk_95, ok_95, rfl, by decide, rfl, fun h => absurd h (by decide)⟩
theorem ok_96 : am_oka 12 false 9 203 1 cd_96 = true := by decide +kernel
theorem mo_96 : am_mo ((⟨"BecauseOfModel", "view", "()I"⟩, prog_14_method_35_code, 3, (some (.int))), 12, 1, 1, 9, 203, 1486, 123, 1484, 1485) cd_96 3 := ⟨dk_96, ok_96, rfl, by decide, rfl, fun h => absurd h (by decide)⟩
theorem ok_97 : am_oka 6 false 7 156 6 cd_97 = true := by decide +kernel
theorem mo_97 : am_mo ((⟨"BecauseOf$Reade\x72", "readRule", "()LBecauseOf$Test;"⟩, prog_8_method_5_code, 2, (some (.object "BecauseOf$Test"))), 6, 1, 1, 7, 156, 753, 116, 751, 752) cd_97 2 := ⟨dk_97, ok_97, rfl, by decide, rfl, fun h => absurd h (by decide)⟩
theorem ok_98 : am_oka 11 false 8 177 1 cd_98 = true := by decide +kernel
theorem mo_98 : am_mo ((⟨"BecauseOf", "rule", "()I"⟩, prog_1_method_8_code, 2, (some (.int))), 11, 1, 1, 8, 177, 749, 113, 747, 748) cd_98 2 := ⟨dk_98, ok_98, rfl, by decide, rfl, fun h => absurd h (by decide)⟩
theorem ok_99 : am_oka 12 false 8 178 1 cd_99 = true := by decide +kernel
theorem mo_99 : am_mo ((⟨"BecauseOfModel", "rule", "()I"⟩, prog_14_method_36_code, 1, (some (.int))), 12, 1, 1, 8, 178, 1587, 123, 1585, 1586) cd_99 1 := ⟨dk_99, ok_99, rfl, by decide, rfl, fun h => absurd h (by decide)⟩
theorem ok_100 : am_oka 11 false 0 0 6 cd_100 = true := by decide +kernel
theorem mo_100 : am_mo ((⟨"BecauseOf", "ruleAt", "(I)LBecauseOf$Test;"⟩, prog_1_method_49_code, 2, (some (.object "BecauseOf$Test"))), 11, 2, 1, 0, 0, 761, 113, 760, 22) cd_100 2 := ⟨dk_100, ok_100, rfl, by decide, rfl, fun h => absurd h (by decide)⟩
theorem ok_101 : am_oka 1 false 2 43 0 cd_101 = true := by decide +kernel
theorem mo_101 : am_mo ((⟨"BecauseOf$Cases", "writeRow", "(I[I)V"⟩, prog_3_method_12_code, 4, none), 1, 3, 1, 2, 43, 765, 114, 763, 764) cd_101 4 := ⟨dk_101, ok_101, rfl, by decide, rfl, fun h => absurd h (by decide)⟩
theorem ok_102 : am_oka 9 false 0 0 1 cd_102 = true := by decide +kernel
theorem mo_102 : am_mo ((⟨"BecauseOf$Test", "valueOf", "(I[I)I"⟩, prog_11_method_3_code, 3, (some (.int))), 9, 2, 0, 0, 0, 781, 130, 780, 0) cd_102 3 := ⟨dk_102, ok_102, rfl, by decide, rfl, fun h => absurd h (by decide)⟩
theorem ok_103 : am_oka 9 false 0 0 2 cd_103 = true := by decide +kernel
theorem mo_103 : am_mo ((⟨"BecauseOf$Test", "compares", "(III)Z"⟩, prog_11_method_4_code, 3, (some (.boolean))), 9, 3, 0, 0, 0, 785, 130, 784, 0) cd_103 3 := ⟨dk_103, ok_103, rfl, by decide, rfl, fun h => absurd h (by decide)⟩
theorem ok_104 : am_oka 9 false 1 22 2 cd_104 = true := by decide +kernel
theorem mo_104 : am_mo ((⟨"BecauseOf$Test", "isTrue", "([I)Z"⟩, prog_11_method_2_code, 14, (some (.boolean))), 9, 2, 1, 1, 22, 777, 130, 775, 776) cd_104 14 := ⟨dk_104, ok_104, rfl, by decide, rfl, fun h => absurd h (by decide)⟩
theorem ok_105 : am_oka 11 false 3 66 1 cd_105 = true := by decide +kernel
theorem mo_105 : am_mo ((⟨"BecauseOf", "says", "(II)I"⟩, prog_1_method_9_code, 4, (some (.int))), 11, 3, 1, 3, 66, 757, 113, 755, 756) cd_105 4 := ⟨dk_105, ok_105, rfl, by decide, rfl, fun h => absurd h (by decide)⟩
theorem ok_106 : am_oka 12 false 0 0 0 cd_106 = true := by decide +kernel
theorem mo_106 : am_mo ((⟨"BecauseOfModel", "push", "(I)V"⟩, prog_14_method_39_code, 2, none), 12, 2, 1, 0, 0, 1599, 123, 1598, 76) cd_106 2 := ⟨dk_106, ok_106, rfl, by decide, rfl, fun h => absurd h (by decide)⟩
theorem ok_107 : am_oka 12 false 0 0 1 cd_107 = true := by decide +kernel
theorem mo_107 : am_mo ((⟨"BecauseOfModel", "markOf", "(II)I"⟩, prog_14_method_9_code, 3, (some (.int))), 12, 3, 1, 0, 0, 1607, 123, 1606, 78) cd_107 3 := ⟨dk_107, ok_107, rfl, by decide, rfl, fun h => absurd h (by decide)⟩
theorem ok_108 : am_oka 12 false 1 22 1 cd_108 = true := by decide +kernel
theorem mo_108 : am_mo ((⟨"BecauseOfModel", "wordOf", "(II)I"⟩, prog_14_method_37_code, 5, (some (.int))), 12, 3, 1, 1, 22, 1603, 123, 1602, 77) cd_108 5 := ⟨dk_108, ok_108, rfl, by decide, rfl, fun h => absurd h (by decide)⟩
theorem ok_109 : am_oka 12 false 0 0 1 cd_109 = true := by decide +kernel
theorem mo_109 : am_mo ((⟨"BecauseOfModel", "pop", "()I"⟩, prog_14_method_40_code, 1, (some (.int))), 12, 1, 1, 0, 0, 1611, 123, 1610, 79) cd_109 1 := ⟨dk_109, ok_109, rfl, by decide, rfl, fun h => absurd h (by decide)⟩
theorem ok_110 : am_oka 12 false 0 0 2 cd_110 = true := by decide +kernel
theorem mo_110 : am_mo ((⟨"BecauseOfModel", "compares", "(III)Z"⟩, prog_14_method_38_code, 3, (some (.boolean))), 12, 3, 0, 0, 0, 1614, 123, 1613, 0) cd_110 3 := ⟨dk_110, ok_110, rfl, by decide, rfl, fun h => absurd h (by decide)⟩
theorem ok_111 : am_oka 12 false 2 46 2 cd_111 = true := by decide +kernel
theorem mo_111 : am_mo ((⟨"BecauseOfModel", "isTrue", "(II)Z"⟩, prog_14_method_41_code, 8, (some (.boolean))), 12, 3, 1, 2, 46, 1595, 123, 1594, 75) cd_111 8 := ⟨dk_111, ok_111, rfl, by decide, rfl, fun h => absurd h (by decide)⟩
theorem ok_112 : am_oka 12 false 3 73 1 cd_112 = true := by decide +kernel
theorem mo_112 : am_mo ((⟨"BecauseOfModel", "says", "(II)I"⟩, prog_14_method_42_code, 3, (some (.int))), 12, 3, 1, 3, 73, 1591, 123, 1589, 1590) cd_112 3 := ⟨dk_112, ok_112, rfl, by decide, rfl, fun h => absurd h (by decide)⟩
theorem ok_113 : am_oka 11 false 0 0 6 cd_113 = true := by decide +kernel
theorem mo_113 : am_mo ((⟨"BecauseOf", "viewAt", "(I)LBecauseOf$View;"⟩, prog_1_method_48_code, 2, (some (.object "BecauseOf$View"))), 11, 2, 1, 0, 0, 798, 113, 797, 24) cd_113 2 := ⟨dk_113, ok_113, rfl, by decide, rfl, fun h => absurd h (by decide)⟩
theorem ok_114 : am_oka 1 false 2 43 2 cd_114 = true := by decide +kernel
theorem mo_114 : am_mo ((⟨"BecauseOf$Cases", "missesOneOf", "(II)Z"⟩, prog_3_method_10_code, 4, (some (.boolean))), 1, 3, 1, 2, 43, 806, 114, 804, 805) cd_114 4 := ⟨dk_114, ok_114, rfl, by decide, rfl, fun h => absurd h (by decide)⟩
theorem ok_115 : am_oka 8 false 3 66 2 cd_115 = true := by decide +kernel
theorem mo_115 : am_mo ((⟨"BecauseOf$Taken", "isAmong", "(LBecauseOf$Test;I)Z"⟩, prog_10_method_3_code, 3, (some (.boolean))), 8, 3, 1, 3, 66, 810, 117, 809, 25) cd_115 3 := ⟨dk_115, ok_115, rfl, by decide, rfl, fun h => absurd h (by decide)⟩
theorem ok_116 : am_oka 8 false 4 88 0 cd_116 = true := by decide +kernel
theorem mo_116 : am_mo ((⟨"BecauseOf$Taken", "gathe\x72", "(LBecauseOf$View;I)V"⟩, prog_10_method_2_code, 4, none), 8, 3, 1, 4, 88, 802, 117, 800, 801) cd_116 4 := ⟨dk_116, ok_116, rfl, by decide, rfl, fun h => absurd h (by decide)⟩
theorem ok_117 : am_oka 11 false 5 111 2 cd_117 = true := by decide +kernel
theorem mo_117 : am_mo ((⟨"BecauseOf", "lookBy", "(I)Z"⟩, prog_1_method_50_code, 3, (some (.boolean))), 11, 2, 1, 5, 111, 794, 113, 793, 23) cd_117 3 := ⟨dk_117, ok_117, rfl, by decide, rfl, fun h => absurd h (by decide)⟩
theorem ok_118 : am_oka 8 false 0 0 1 cd_118 = true := by decide +kernel
theorem mo_118 : am_mo ((⟨"BecauseOf$Taken", "caseAt", "(I)I"⟩, prog_10_method_4_code, 2, (some (.int))), 8, 2, 1, 0, 0, 816, 117, 814, 815) cd_118 2 := ⟨dk_118, ok_118, rfl, by decide, rfl, fun h => absurd h (by decide)⟩
theorem ok_119 : am_oka 11 false 6 133 1 cd_119 = true := by decide +kernel
theorem mo_119 : am_mo ((⟨"BecauseOf", "takes", "(II)I"⟩, prog_1_method_10_code, 3, (some (.int))), 11, 3, 1, 6, 133, 790, 113, 788, 789) cd_119 3 := ⟨dk_119, ok_119, rfl, by decide, rfl, fun h => absurd h (by decide)⟩
theorem ok_120 : am_oka 12 false 0 0 2 cd_120 = true := by decide +kernel
theorem mo_120 : am_mo ((⟨"BecauseOfModel", "isView", "(I)Z"⟩, prog_14_method_43_code, 2, (some (.boolean))), 12, 2, 1, 0, 0, 1622, 123, 1621, 80) cd_120 2 := ⟨dk_120, ok_120, rfl, by decide, rfl, fun h => absurd h (by decide)⟩
theorem ok_121 : am_oka 12 false 1 22 2 cd_121 = true := by decide +kernel
theorem mo_121 : am_mo ((⟨"BecauseOfModel", "lacksMark", "(I)Z"⟩, prog_14_method_44_code, 3, (some (.boolean))), 12, 2, 1, 1, 22, 1630, 123, 1629, 82) cd_121 3 := ⟨dk_121, ok_121, rfl, by decide, rfl, fun h => absurd h (by decide)⟩
theorem ok_122 : am_oka 12 false 0 0 1 cd_122 = true := by decide +kernel
theorem mo_122 : am_mo ((⟨"BecauseOfModel", "trait", "(I)I"⟩, prog_14_method_7_code, 2, (some (.int))), 12, 2, 1, 0, 0, 1634, 123, 1633, 83) cd_122 2 := ⟨dk_122, ok_122, rfl, by decide, rfl, fun h => absurd h (by decide)⟩
theorem ok_123 : am_oka 12 false 0 0 2 cd_123 = true := by decide +kernel
theorem mo_123 : am_mo ((⟨"BecauseOfModel", "isLet", "(I)Z"⟩, prog_14_method_8_code, 2, (some (.boolean))), 12, 2, 1, 0, 0, 1638, 123, 1637, 84) cd_123 2 := ⟨dk_123, ok_123, rfl, by decide, rfl, fun h => absurd h (by decide)⟩
theorem ok_124 : am_oka 12 false 3 73 0 cd_124 = true := by decide +kernel
theorem mo_124 : am_mo ((⟨"BecauseOfModel", "gathers", "(II)V"⟩, prog_14_method_45_code, 4, none), 12, 3, 1, 3, 73, 1626, 123, 1625, 81) cd_124 4 := ⟨dk_124, ok_124, rfl, by decide, rfl, fun h => absurd h (by decide)⟩
theorem ok_125 : am_oka 12 false 4 96 1 cd_125 = true := by decide +kernel
theorem mo_125 : am_mo ((⟨"BecauseOfModel", "takes", "(II)I"⟩, prog_14_method_46_code, 3, (some (.int))), 12, 3, 1, 4, 96, 1618, 123, 1616, 1617) cd_125 3 := ⟨dk_125, ok_125, rfl, by decide, rfl, fun h => absurd h (by decide)⟩
theorem ok_126 : am_oka 11 false 0 0 2 cd_126 = true := by decide +kernel
theorem mo_126 : am_mo ((⟨"BecauseOf", "isPart", "(I)Z"⟩, prog_1_method_41_code, 1, (some (.boolean))), 11, 1, 0, 0, 0, 823, 113, 822, 0) cd_126 1 := ⟨dk_126, ok_126, rfl, by decide, rfl, fun h => absurd h (by decide)⟩
theorem ok_127 : am_oka 8 false 2 42 1 cd_127 = true := by decide +kernel
theorem mo_127 : am_mo ((⟨"BecauseOf$Taken", "atLeast", "(III)I"⟩, prog_10_method_5_code, 7, (some (.int))), 8, 4, 1, 2, 42, 827, 117, 825, 826) cd_127 7 := ⟨dk_127, ok_127, rfl, by decide, rfl, fun h => absurd h (by decide)⟩
theorem ok_128 : am_oka 11 false 6 133 1 cd_128 = true := by decide +kernel
theorem mo_128 : am_mo ((⟨"BecauseOf", "table", "(III)I"⟩, prog_1_method_11_code, 4, (some (.int))), 11, 4, 1, 6, 133, 820, 113, 818, 819) cd_128 4 := ⟨dk_128, ok_128, rfl, by decide, rfl, fun h => absurd h (by decide)⟩
theorem ok_129 : am_oka 12 false 4 96 1 cd_129 = true := by decide +kernel
theorem mo_129 : am_mo ((⟨"BecauseOfModel", "table", "(III)I"⟩, prog_14_method_47_code, 4, (some (.int))), 12, 4, 1, 4, 96, 1642, 123, 1640, 1641) cd_129 4 := ⟨dk_129, ok_129, rfl, by decide, rfl, fun h => absurd h (by decide)⟩
theorem ok_130 : am_oka 3 false 0 0 5 cd_130 = true := by decide +kernel
theorem mo_130 : am_mo ((⟨"BecauseOf$Fraction", "commonDiviso\x72", "(JJ)J"⟩, prog_5_method_6_code, 7, (some (.long))), 3, 2, 0, 0, 0, 849, 118, 848, 0) cd_130 7 := ⟨dk_130, ok_130, rfl, by decide, rfl, fun h => absurd h (by decide)⟩
theorem ok_131 : am_oka 3 false 1 26 0 cd_131 = true := by decide +kernel
theorem mo_131 : am_mo ((⟨"BecauseOf$Fraction", "setSplit", "(IIII)V"⟩, prog_5_method_2_code, 7, none), 3, 5, 1, 1, 26, 843, 118, 841, 842) cd_131 7 := ⟨dk_131, ok_131, rfl, by decide, rfl, fun h => absurd h (by decide)⟩
theorem ok_132 : am_oka 11 false 3 68 0 cd_132 = true := by decide +kernel
theorem mo_132 : am_mo ((⟨"BecauseOf", "setGap", "(IIII)V"⟩, prog_1_method_51_code, 5, none), 11, 5, 1, 3, 68, 839, 113, 838, 26) cd_132 5 := ⟨dk_132, ok_132, rfl, by decide, rfl, fun h => absurd h (by decide)⟩
theorem ok_133 : am_oka 3 false 0 0 1 cd_133 = true := by decide +kernel
theorem mo_133 : am_mo ((⟨"BecauseOf$Fraction", "part", "(I)I"⟩, prog_5_method_3_code, 2, (some (.int))), 3, 2, 1, 0, 0, 853, 118, 851, 852) cd_133 2 := ⟨dk_133, ok_133, rfl, by decide, rfl, fun h => absurd h (by decide)⟩
theorem ok_134 : am_oka 11 false 6 133 1 cd_134 = true := by decide +kernel
theorem mo_134 : am_mo ((⟨"BecauseOf", "gap", "(II)I"⟩, prog_1_method_12_code, 3, (some (.int))), 11, 3, 1, 6, 133, 835, 113, 833, 834) cd_134 3 := ⟨dk_134, ok_134, rfl, by decide, rfl, fun h => absurd h (by decide)⟩
theorem ok_135 : am_oka 12 false 0 0 5 cd_135 = true := by decide +kernel
theorem mo_135 : am_mo ((⟨"BecauseOfModel", "diviso\x72", "(JJ)J"⟩, prog_14_method_48_code, 10, (some (.long))), 12, 2, 0, 0, 0, 1653, 123, 1652, 0) cd_135 10 := ⟨dk_135, ok_135, rfl, by decide, rfl, fun h => absurd h (by decide)⟩
theorem ok_136 : am_oka 12 false 1 29 0 cd_136 = true := by decide +kernel
theorem mo_136 : am_mo ((⟨"BecauseOfModel", "less", "(JJJJ)V"⟩, prog_14_method_49_code, 11, none), 12, 5, 1, 1, 29, 1650, 123, 1649, 85) cd_136 11 := ⟨dk_136, ok_136, rfl, by decide, rfl, fun h => absurd h (by decide)⟩
theorem ok_137 : am_oka 12 false 4 96 1 cd_137 = true := by decide +kernel
theorem mo_137 : am_mo ((⟨"BecauseOfModel", "gap", "(II)I"⟩, prog_14_method_50_code, 3, (some (.int))), 12, 3, 1, 4, 96, 1646, 123, 1644, 1645) cd_137 3 := ⟨dk_137, ok_137, rfl, by decide, rfl, fun h => absurd h (by decide)⟩
theorem ok_138 : am_oka 11 false 0 0 5 cd_138 = true := by decide +kernel
theorem mo_138 : am_mo ((⟨"BecauseOf", "choose", "(II)J"⟩, prog_1_method_54_code, 5, (some (.long))), 11, 2, 0, 0, 0, 861, 113, 860, 0) cd_138 5 := ⟨dk_138, ok_138, rfl, by decide, rfl, fun h => absurd h (by decide)⟩
theorem ok_139 : am_oka 11 false 6 133 5 cd_139 = true := by decide +kernel
theorem mo_139 : am_mo ((⟨"BecauseOf", "luck", "(II)J"⟩, prog_1_method_13_code, 9, (some (.long))), 11, 3, 1, 6, 133, 857, 113, 855, 856) cd_139 9 := ⟨dk_139, ok_139, rfl, by decide, rfl, fun h => absurd h (by decide)⟩
theorem ok_140 : am_oka 12 false 0 0 5 cd_140 = true := by decide +kernel
theorem mo_140 : am_mo ((⟨"BecauseOfModel", "choose", "(II)J"⟩, prog_14_method_51_code, 5, (some (.long))), 12, 3, 1, 0, 0, 1661, 123, 1660, 86) cd_140 5 := ⟨dk_140, ok_140, rfl, by decide, rfl, fun h => absurd h (by decide)⟩
theorem ok_141 : am_oka 12 false 4 96 5 cd_141 = true := by decide +kernel
theorem mo_141 : am_mo ((⟨"BecauseOfModel", "luck", "(II)J"⟩, prog_14_method_52_code, 7, (some (.long))), 12, 3, 1, 4, 96, 1657, 123, 1655, 1656) cd_141 7 := ⟨dk_141, ok_141, rfl, by decide, rfl, fun h => absurd h (by decide)⟩
theorem ok_142 : am_oka 13 false 0 0 0 cd_142 = true := by decide +kernel
theorem mo_142 : am_mo ((⟨"java/util/Arrays", "fill", "([II)V"⟩, prog_22_method_103_code, 4, none), 13, 2, 0, 0, 0, 872, 124, 871, 0) cd_142 4 := ⟨dk_142, ok_142, rfl, by decide, rfl, fun h => absurd h (by decide)⟩
theorem ok_143 : am_oka 1 false 2 43 1 cd_143 = true := by decide +kernel
theorem mo_143 : am_mo ((⟨"BecauseOf$Cases", "keyOf", "(II)I"⟩, prog_3_method_11_code, 5, (some (.int))), 1, 3, 1, 2, 43, 876, 114, 874, 875) cd_143 5 := ⟨dk_143, ok_143, rfl, by decide, rfl, fun h => absurd h (by decide)⟩
theorem ok_144 : am_oka 8 false 0 0 1 cd_144 = true := by decide +kernel
theorem mo_144 : am_mo ((⟨"BecauseOf$Taken", "groupWith", "(I)I"⟩, prog_10_method_12_code, 3, (some (.int))), 8, 2, 1, 0, 0, 880, 117, 879, 27) cd_144 3 := ⟨dk_144, ok_144, rfl, by decide, rfl, fun h => absurd h (by decide)⟩
theorem ok_145 : am_oka 8 false 2 42 0 cd_145 = true := by decide +kernel
theorem mo_145 : am_mo ((⟨"BecauseOf$Taken", "tallyUp", "(III)V"⟩, prog_10_method_13_code, 5, none), 8, 4, 1, 2, 42, 884, 117, 883, 28) cd_145 5 := ⟨dk_145, ok_145, rfl, by decide, rfl, fun h => absurd h (by decide)⟩
theorem ok_146 : am_oka 8 false 3 67 0 cd_146 = true := by decide +kernel
theorem mo_146 : am_mo ((⟨"BecauseOf$Taken", "sort", "()V"⟩, prog_10_method_11_code, 4, none), 8, 1, 1, 3, 67, 869, 117, 867, 868) cd_146 4 := ⟨dk_146, ok_146, rfl, by decide, rfl, fun h => absurd h (by decide)⟩
theorem ok_147 : am_oka 8 false 0 0 1 cd_147 = true := by decide +kernel
theorem mo_147 : am_mo ((⟨"BecauseOf$Taken", "tallyOf", "(II)I"⟩, prog_10_method_14_code, 4, (some (.int))), 8, 3, 1, 0, 0, 892, 117, 890, 891) cd_147 4 := ⟨dk_147, ok_147, rfl, by decide, rfl, fun h => absurd h (by decide)⟩
theorem ok_148 : am_oka 8 false 1 23 2 cd_148 = true := by decide +kernel
theorem mo_148 : am_mo ((⟨"BecauseOf$Taken", "isMixed", "(I)Z"⟩, prog_10_method_15_code, 2, (some (.boolean))), 8, 2, 1, 1, 23, 896, 117, 895, 29) cd_148 2 := ⟨dk_148, ok_148, rfl, by decide, rfl, fun h => absurd h (by decide)⟩
theorem ok_149 : am_oka 8 false 2 44 1 cd_149 = true := by decide +kernel
theorem mo_149 : am_mo ((⟨"BecauseOf$Taken", "wouldOf", "(I)I"⟩, prog_10_method_17_code, 3, (some (.int))), 8, 2, 1, 2, 44, 888, 117, 886, 887) cd_149 3 := ⟨dk_149, ok_149, rfl, by decide, rfl, fun h => absurd h (by decide)⟩
theorem ok_150 : am_oka 11 false 6 133 1 cd_150 = true := by decide +kernel
theorem mo_150 : am_mo ((⟨"BecauseOf", "group", "(III)I"⟩, prog_1_method_14_code, 4, (some (.int))), 11, 4, 1, 6, 133, 865, 113, 863, 864) cd_150 4 := ⟨dk_150, ok_150, rfl, by decide, rfl, fun h => absurd h (by decide)⟩
theorem ok_151 : am_oka 12 false 1 22 2 cd_151 = true := by decide +kernel
theorem mo_151 : am_mo ((⟨"BecauseOfModel", "areAlike", "(II)Z"⟩, prog_14_method_53_code, 4, (some (.boolean))), 12, 3, 1, 1, 22, 1673, 123, 1672, 88) cd_151 4 := ⟨dk_151, ok_151, rfl, by decide, rfl, fun h => absurd h (by decide)⟩
theorem ok_152 : am_oka 12 false 2 45 0 cd_152 = true := by decide +kernel
theorem mo_152 : am_mo ((⟨"BecauseOfModel", "parts", "()V"⟩, prog_14_method_54_code, 5, none), 12, 1, 1, 2, 45, 1669, 123, 1668, 87) cd_152 5 := ⟨dk_152, ok_152, rfl, by decide, rfl, fun h => absurd h (by decide)⟩
theorem ok_153 : am_oka 12 false 0 0 2 cd_153 = true := by decide +kernel
theorem mo_153 : am_mo ((⟨"BecauseOfModel", "hasBoth", "(I)Z"⟩, prog_14_method_55_code, 2, (some (.boolean))), 12, 2, 1, 0, 0, 1678, 123, 1677, 89) cd_153 2 := ⟨dk_153, ok_153, rfl, by decide, rfl, fun h => absurd h (by decide)⟩
theorem ok_154 : am_oka 12 false 0 0 1 cd_154 = true := by decide +kernel
theorem mo_154 : am_mo ((⟨"BecauseOfModel", "would", "(I)I"⟩, prog_14_method_56_code, 2, (some (.int))), 12, 2, 1, 0, 0, 1682, 123, 1681, 90) cd_154 2 := ⟨dk_154, ok_154, rfl, by decide, rfl, fun h => absurd h (by decide)⟩
theorem ok_155 : am_oka 12 false 4 96 1 cd_155 = true := by decide +kernel
theorem mo_155 : am_mo ((⟨"BecauseOfModel", "group", "(III)I"⟩, prog_14_method_57_code, 4, (some (.int))), 12, 4, 1, 4, 96, 1665, 123, 1663, 1664) cd_155 4 := ⟨dk_155, ok_155, rfl, by decide, rfl, fun h => absurd h (by decide)⟩
theorem ok_156 : am_oka 8 false 3 66 1 cd_156 = true := by decide +kernel
theorem mo_156 : am_mo ((⟨"BecauseOf$Taken", "lackOf", "(I)I"⟩, prog_10_method_18_code, 2, (some (.int))), 8, 2, 1, 3, 66, 910, 117, 909, 30) cd_156 2 := ⟨dk_156, ok_156, rfl, by decide, rfl, fun h => absurd h (by decide)⟩
theorem ok_157 : am_oka 8 false 4 87 1 cd_157 = true := by decide +kernel
theorem mo_157 : am_mo ((⟨"BecauseOf$Taken", "lackSum", "()I"⟩, prog_10_method_19_code, 3, (some (.int))), 8, 1, 1, 4, 87, 906, 117, 904, 905) cd_157 3 := ⟨dk_157, ok_157, rfl, by decide, rfl, fun h => absurd h (by decide)⟩
theorem ok_158 : am_oka 5 false 0 0 1 cd_158 = true := by decide +kernel
theorem mo_158 : am_mo ((⟨"BecauseOf$Pairing", "rowAt", "(I)I"⟩, prog_7_method_7_code, 3, (some (.int))), 5, 2, 1, 0, 0, 960, 119, 959, 34) cd_158 3 := ⟨dk_158, ok_158, rfl, by decide, rfl, fun h => absurd h (by decide)⟩
theorem ok_159 : am_oka 12 false 1 21 1 cd_159 = true := by decide +kernel
theorem mo_159 : am_mo ((⟨"BecauseOfModel", "lacking", "()I"⟩, prog_14_method_58_code, 3, (some (.int))), 12, 1, 1, 1, 21, 1691, 123, 1690, 91) cd_159 3 := ⟨dk_159, ok_159, rfl, by decide, rfl, fun h => absurd h (by decide)⟩
theorem ok_160 : am_oka 7 false 0 0 5 cd_160 = true := by decide +kernel
theorem mo_160 : am_mo ((⟨"BecauseOf$ShortRules", "trueOf", "(II)J"⟩, prog_9_method_9_code, 4, (some (.long))), 7, 3, 1, 0, 0, 1191, 121, 1190, 47) cd_160 4 := ⟨dk_160, ok_160, rfl, by decide, rfl, fun h => absurd h (by decide)⟩
theorem ok_161 : am_oka 5 false 2 42 0 cd_161 = true := by decide +kernel
theorem mo_161 : am_mo ((⟨"BecauseOf$Pairing", "pickFirst", "(LBecauseOf$Cases;LBecauseOf$Taken;I[I)V"⟩, prog_7_method_3_code, 7, none), 5, 4, 0, 2, 42, 922, 119, 921, 0) cd_161 7 := ⟨dk_161, ok_161, rfl, by decide, rfl, fun h => absurd h (by decide)⟩
theorem ok_162 : am_oka 10 false 1 20 1 cd_162 = true := by decide +kernel
theorem mo_162 : am_mo ((⟨"BecauseOf$View", "numberOf", "(I)I"⟩, prog_12_method_4_code, 2, (some (.int))), 10, 2, 1, 1, 20, 935, 129, 933, 934) cd_162 2 := ⟨dk_162, ok_162, rfl, by decide, rfl, fun h => absurd h (by decide)⟩
theorem ok_163 : am_oka 10 false 0 0 1 cd_163 = true := by decide +kernel
theorem mo_163 : am_mo ((⟨"BecauseOf$View", "farthest", "()I"⟩, prog_12_method_2_code, 1, (some (.int))), 10, 1, 1, 0, 0, 943, 129, 941, 942) cd_163 1 := ⟨dk_163, ok_163, rfl, by decide, rfl, fun h => absurd h (by decide)⟩
theorem ok_164 : am_oka 5 false 3 67 1 cd_164 = true := by decide +kernel
theorem mo_164 : am_mo ((⟨"BecauseOf$Pairing", "distance", "(LBecauseOf$Cases;LBecauseOf$View;II)I"⟩, prog_7_method_4_code, 6, (some (.int))), 5, 4, 0, 3, 67, 928, 119, 927, 0) cd_164 6 := ⟨dk_164, ok_164, rfl, by decide, rfl, fun h => absurd h (by decide)⟩
theorem ok_165 : am_oka 5 false 0 0 2 cd_165 = true := by decide +kernel
theorem mo_165 : am_mo ((⟨"BecauseOf$Pairing", "isTaken", "(I)Z"⟩, prog_7_method_6_code, 2, (some (.boolean))), 5, 2, 1, 0, 0, 952, 119, 951, 32) cd_165 2 := ⟨dk_165, ok_165, rfl, by decide, rfl, fun h => absurd h (by decide)⟩
theorem ok_166 : am_oka 5 false 1 22 1 cd_166 = true := by decide +kernel
theorem mo_166 : am_mo ((⟨"BecauseOf$Pairing", "reachNext", "(I)I"⟩, prog_7_method_8_code, 7, (some (.int))), 5, 2, 1, 1, 22, 956, 119, 955, 33) cd_166 7 := ⟨dk_166, ok_166, rfl, by decide, rfl, fun h => absurd h (by decide)⟩
theorem ok_167 : am_oka 5 false 2 48 0 cd_167 = true := by decide +kernel
theorem mo_167 : am_mo ((⟨"BecauseOf$Pairing", "addRow", "(I)V"⟩, prog_7_method_5_code, 5, none), 5, 2, 1, 2, 48, 947, 119, 946, 31) cd_167 5 := ⟨dk_167, ok_167, rfl, by decide, rfl, fun h => absurd h (by decide)⟩
theorem ok_168 : am_oka 5 false 1 22 0 cd_168 = true := by decide +kernel
theorem mo_168 : am_mo ((⟨"BecauseOf$Pairing", "addUp", "()V"⟩, prog_7_method_9_code, 3, none), 5, 1, 1, 1, 22, 964, 119, 963, 35) cd_168 3 := ⟨dk_168, ok_168, rfl, by decide, rfl, fun h => absurd h (by decide)⟩
theorem ok_169 : am_oka 5 false 4 92 0 cd_169 = true := by decide +kernel
theorem mo_169 : am_mo ((⟨"BecauseOf$Pairing", "pai\x72", "(LBecauseOf$Cases;LBecauseOf$View;LBecauseOf$Taken;)V"⟩, prog_7_method_2_code, 6, none), 5, 4, 1, 4, 92, 919, 119, 917, 918) cd_169 6 := ⟨dk_169, ok_169, rfl, by decide, rfl, fun h => absurd h (by decide)⟩
theorem ok_170 : am_oka 11 false 6 133 1 cd_170 = true := by decide +kernel
theorem mo_170 : am_mo ((⟨"BecauseOf", "pairs", "(II)I"⟩, prog_1_method_16_code, 4, (some (.int))), 11, 3, 1, 6, 133, 915, 113, 913, 914) cd_170 4 := ⟨dk_170, ok_170, rfl, by decide, rfl, fun h => absurd h (by decide)⟩
theorem ok_171 : am_oka 12 false 2 45 1 cd_171 = true := by decide +kernel
theorem mo_171 : am_mo ((⟨"BecauseOfModel", "distance", "(III)I"⟩, prog_14_method_62_code, 9, (some (.int))), 12, 4, 1, 2, 45, 1708, 123, 1707, 92) cd_171 9 := ⟨dk_171, ok_171, rfl, by decide, rfl, fun h => absurd h (by decide)⟩
theorem ok_172 : am_oka 12 false 0 0 1 cd_172 = true := by decide +kernel
theorem mo_172 : am_mo ((⟨"BecauseOfModel", "bits", "(I)I"⟩, prog_14_method_63_code, 3, (some (.int))), 12, 1, 0, 0, 0, 1711, 123, 1710, 0) cd_172 3 := ⟨dk_172, ok_172, rfl, by decide, rfl, fun h => absurd h (by decide)⟩
theorem ok_173 : am_oka 12 false 4 96 1 cd_173 = true := by decide +kernel
theorem mo_173 : am_mo ((⟨"BecauseOfModel", "pairs", "(II)I"⟩, prog_14_method_64_code, 7, (some (.int))), 12, 3, 1, 4, 96, 1703, 123, 1701, 1702) cd_173 7 := ⟨dk_173, ok_173, rfl, by decide, rfl, fun h => absurd h (by decide)⟩
theorem ok_174 : am_oka 8 false 2 44 2 cd_174 = true := by decide +kernel
theorem mo_174 : am_mo ((⟨"BecauseOf$Taken", "hasMixedGroup", "()Z"⟩, prog_10_method_16_code, 2, (some (.boolean))), 8, 1, 1, 2, 44, 973, 117, 971, 972) cd_174 2 := ⟨dk_174, ok_174, rfl, by decide, rfl, fun h => absurd h (by decide)⟩
theorem ok_175 : am_oka 11 false 5 111 1 cd_175 = true := by decide +kernel
theorem mo_175 : am_mo ((⟨"BecauseOf", "next", "(I)I"⟩, prog_1_method_17_code, 7, (some (.int))), 11, 2, 1, 5, 111, 968, 113, 966, 967) cd_175 7 := ⟨dk_175, ok_175, rfl, by decide, rfl, fun h => absurd h (by decide)⟩
theorem ok_176 : am_oka 12 false 4 96 1 cd_176 = true := by decide +kernel
theorem mo_176 : am_mo ((⟨"BecauseOfModel", "next", "(I)I"⟩, prog_14_method_61_code, 7, (some (.int))), 12, 2, 1, 4, 96, 1699, 123, 1697, 1698) cd_176 7 := ⟨dk_176, ok_176, rfl, by decide, rfl, fun h => absurd h (by decide)⟩
theorem ok_177 : am_oka 8 false 4 87 1 cd_177 = true := by decide +kernel
theorem mo_177 : am_mo ((⟨"BecauseOf$Taken", "lackChange", "(I)I"⟩, prog_10_method_20_code, 6, (some (.int))), 8, 2, 1, 4, 87, 981, 117, 979, 980) cd_177 6 := ⟨dk_177, ok_177, rfl, by decide, rfl, fun h => absurd h (by decide)⟩
theorem ok_178 : am_oka 11 false 6 133 1 cd_178 = true := by decide +kernel
theorem mo_178 : am_mo ((⟨"BecauseOf", "sway", "(II)I"⟩, prog_1_method_18_code, 8, (some (.int))), 11, 3, 1, 6, 133, 977, 113, 975, 976) cd_178 8 := ⟨dk_178, ok_178, rfl, by decide, rfl, fun h => absurd h (by decide)⟩
theorem ok_179 : am_oka 12 false 4 96 1 cd_179 = true := by decide +kernel
theorem mo_179 : am_mo ((⟨"BecauseOfModel", "sway", "(II)I"⟩, prog_14_method_60_code, 8, (some (.int))), 12, 3, 1, 4, 96, 1695, 123, 1693, 1694) cd_179 8 := ⟨dk_179, ok_179, rfl, by decide, rfl, fun h => absurd h (by decide)⟩
theorem ok_180 : am_oka 4 false 0 0 1 cd_180 = true := by decide +kernel
theorem mo_180 : am_mo ((⟨"BecauseOf$Letters", "add", "(IZZ)I"⟩, prog_6_method_2_code, 4, (some (.int))), 4, 4, 1, 0, 0, 989, 115, 987, 988) cd_180 4 := ⟨dk_180, ok_180, rfl, by decide, rfl, fun h => absurd h (by decide)⟩
theorem ok_181 : am_oka 11 false 1 23 1 cd_181 = true := by decide +kernel
theorem mo_181 : am_mo ((⟨"BecauseOf", "lette\x72", "(IZZ)I"⟩, prog_1_method_19_code, 4, (some (.int))), 11, 4, 1, 1, 23, 985, 113, 983, 984) cd_181 4 := ⟨dk_181, ok_181, rfl, by decide, rfl, fun h => absurd h (by decide)⟩
theorem ok_182 : am_oka 12 false 1 25 1 cd_182 = true := by decide +kernel
theorem mo_182 : am_mo ((⟨"BecauseOfModel", "lette\x72", "(IZZ)I"⟩, prog_14_method_65_code, 4, (some (.int))), 12, 4, 1, 1, 25, 1715, 123, 1713, 1714) cd_182 4 := ⟨dk_182, ok_182, rfl, by decide, rfl, fun h => absurd h (by decide)⟩
theorem ok_183 : am_oka 11 false 1 20 2 cd_183 = true := by decide +kernel
theorem mo_183 : am_mo ((⟨"BecauseOf", "isOfficeOrAll", "(I)Z"⟩, prog_1_method_43_code, 1, (some (.boolean))), 11, 1, 0, 1, 20, 996, 113, 995, 0) cd_183 1 := ⟨dk_183, ok_183, rfl, by decide, rfl, fun h => absurd h (by decide)⟩
theorem ok_184 : am_oka 4 false 0 0 1 cd_184 = true := by decide +kernel
theorem mo_184 : am_mo ((⟨"BecauseOf$Letters", "sentTo", "(I)I"⟩, prog_6_method_3_code, 4, (some (.int))), 4, 2, 1, 0, 0, 1000, 115, 998, 999) cd_184 4 := ⟨dk_184, ok_184, rfl, by decide, rfl, fun h => absurd h (by decide)⟩
theorem ok_185 : am_oka 4 false 0 0 1 cd_185 = true := by decide +kernel
theorem mo_185 : am_mo ((⟨"BecauseOf$Letters", "turnedOf", "(I)I"⟩, prog_6_method_4_code, 4, (some (.int))), 4, 2, 1, 0, 0, 1004, 115, 1002, 1003) cd_185 4 := ⟨dk_185, ok_185, rfl, by decide, rfl, fun h => absurd h (by decide)⟩
theorem ok_186 : am_oka 4 false 0 0 1 cd_186 = true := by decide +kernel
theorem mo_186 : am_mo ((⟨"BecauseOf$Letters", "headsOf", "(I)I"⟩, prog_6_method_5_code, 4, (some (.int))), 4, 2, 1, 0, 0, 1008, 115, 1006, 1007) cd_186 4 := ⟨dk_186, ok_186, rfl, by decide, rfl, fun h => absurd h (by decide)⟩
theorem ok_187 : am_oka 11 false 2 40 1 cd_187 = true := by decide +kernel
theorem mo_187 : am_mo ((⟨"BecauseOf", "turned", "(II)I"⟩, prog_1_method_20_code, 3, (some (.int))), 11, 3, 1, 2, 40, 993, 113, 991, 992) cd_187 3 := ⟨dk_187, ok_187, rfl, by decide, rfl, fun h => absurd h (by decide)⟩
theorem ok_188 : am_oka 12 false 1 25 2 cd_188 = true := by decide +kernel
theorem mo_188 : am_mo ((⟨"BecauseOfModel", "counts", "(I)Z"⟩, prog_14_method_66_code, 3, (some (.boolean))), 12, 2, 1, 1, 25, 1723, 123, 1722, 93) cd_188 3 := ⟨dk_188, ok_188, rfl, by decide, rfl, fun h => absurd h (by decide)⟩
theorem ok_189 : am_oka 12 false 2 47 1 cd_189 = true := by decide +kernel
theorem mo_189 : am_mo ((⟨"BecauseOfModel", "turned", "(II)I"⟩, prog_14_method_67_code, 3, (some (.int))), 12, 3, 1, 2, 47, 1719, 123, 1717, 1718) cd_189 3 := ⟨dk_189, ok_189, rfl, by decide, rfl, fun h => absurd h (by decide)⟩
theorem ok_190 : am_oka 11 false 0 0 5 cd_190 = true := by decide +kernel
theorem mo_190 : am_mo ((⟨"BecauseOf", "powe\x72", "(II)J"⟩, prog_1_method_55_code, 5, (some (.long))), 11, 2, 0, 0, 0, 1018, 113, 1017, 0) cd_190 5 := ⟨dk_190, ok_190, rfl, by decide, rfl, fun h => absurd h (by decide)⟩
theorem ok_191 : am_oka 11 false 1 24 5 cd_191 = true := by decide +kernel
theorem mo_191 : am_mo ((⟨"BecauseOf", "heads", "(III)J"⟩, prog_1_method_56_code, 6, (some (.long))), 11, 3, 0, 1, 24, 1015, 113, 1014, 0) cd_191 6 := ⟨dk_191, ok_191, rfl, by decide, rfl, fun h => absurd h (by decide)⟩
theorem ok_192 : am_oka 11 false 2 49 5 cd_192 = true := by decide +kernel
theorem mo_192 : am_mo ((⟨"BecauseOf", "coin", "(II)J"⟩, prog_1_method_21_code, 4, (some (.long))), 11, 3, 1, 2, 49, 1012, 113, 1010, 1011) cd_192 4 := ⟨dk_192, ok_192, rfl, by decide, rfl, fun h => absurd h (by decide)⟩
theorem ok_193 : am_oka 12 false 2 47 5 cd_193 = true := by decide +kernel
theorem mo_193 : am_mo ((⟨"BecauseOfModel", "coin", "(II)J"⟩, prog_14_method_68_code, 6, (some (.long))), 12, 3, 1, 2, 47, 1727, 123, 1725, 1726) cd_193 6 := ⟨dk_193, ok_193, rfl, by decide, rfl, fun h => absurd h (by decide)⟩
theorem ok_194 : am_oka 11 false 2 49 5 cd_194 = true := by decide +kernel
theorem mo_194 : am_mo ((⟨"BecauseOf", "hidden", "(III)J"⟩, prog_1_method_22_code, 5, (some (.long))), 11, 4, 1, 2, 49, 1022, 113, 1020, 1021) cd_194 5 := ⟨dk_194, ok_194, rfl, by decide, rfl, fun h => absurd h (by decide)⟩
theorem ok_195 : am_oka 12 false 0 0 5 cd_195 = true := by decide +kernel
theorem mo_195 : am_mo ((⟨"BecauseOfModel", "powe\x72", "(JI)J"⟩, prog_14_method_69_code, 6, (some (.long))), 12, 2, 0, 0, 0, 1739, 123, 1738, 0) cd_195 6 := ⟨dk_195, ok_195, rfl, by decide, rfl, fun h => absurd h (by decide)⟩
theorem ok_196 : am_oka 12 false 1 25 5 cd_196 = true := by decide +kernel
theorem mo_196 : am_mo ((⟨"BecauseOfModel", "weighed", "(I)J"⟩, prog_14_method_70_code, 5, (some (.long))), 12, 2, 1, 1, 25, 1736, 123, 1735, 94) cd_196 5 := ⟨dk_196, ok_196, rfl, by decide, rfl, fun h => absurd h (by decide)⟩
theorem ok_197 : am_oka 12 false 2 49 5 cd_197 = true := by decide +kernel
theorem mo_197 : am_mo ((⟨"BecauseOfModel", "hidden", "(III)J"⟩, prog_14_method_71_code, 4, (some (.long))), 12, 4, 1, 2, 49, 1731, 123, 1729, 1730) cd_197 4 := ⟨dk_197, ok_197, rfl, by decide, rfl, fun h => absurd h (by decide)⟩
theorem ok_198 : am_oka 11 false 2 49 1 cd_198 = true := by decide +kernel
theorem mo_198 : am_mo ((⟨"BecauseOf", "edge", "(I)I"⟩, prog_1_method_23_code, 7, (some (.int))), 11, 2, 1, 2, 49, 1026, 113, 1024, 1025) cd_198 7 := ⟨dk_198, ok_198, rfl, by decide, rfl, fun h => absurd h (by decide)⟩
theorem ok_199 : am_oka 12 false 2 49 1 cd_199 = true := by decide +kernel
theorem mo_199 : am_mo ((⟨"BecauseOfModel", "edge", "(I)I"⟩, prog_14_method_72_code, 3, (some (.int))), 12, 2, 1, 2, 49, 1743, 123, 1741, 1742) cd_199 3 := ⟨dk_199, ok_199, rfl, by decide, rfl, fun h => absurd h (by decide)⟩
theorem ok_200 : am_oka 11 false 0 0 2 cd_200 = true := by decide +kernel
theorem mo_200 : am_mo ((⟨"BecauseOf", "areMore", "(II)Z"⟩, prog_1_method_47_code, 2, (some (.boolean))), 11, 2, 0, 0, 0, 1035, 113, 1034, 0) cd_200 2 := ⟨dk_200, ok_200, rfl, by decide, rfl, fun h => absurd h (by decide)⟩
theorem ok_201 : am_oka 11 false 6 133 1 cd_201 = true := by decide +kernel
theorem mo_201 : am_mo ((⟨"BecauseOf", "ends", "(IIII)I"⟩, prog_1_method_24_code, 5, (some (.int))), 11, 5, 1, 6, 133, 1032, 113, 1030, 1031) cd_201 5 := ⟨dk_201, ok_201, rfl, by decide, rfl, fun h => absurd h (by decide)⟩
theorem ok_202 : am_oka 12 false 1 25 2 cd_202 = true := by decide +kernel
theorem mo_202 : am_mo ((⟨"BecauseOfModel", "areMissing", "(II)Z"⟩, prog_14_method_75_code, 3, (some (.boolean))), 12, 3, 1, 1, 25, 1751, 123, 1750, 95) cd_202 3 := ⟨dk_202, ok_202, rfl, by decide, rfl, fun h => absurd h (by decide)⟩
theorem ok_203 : am_oka 12 false 2 59 0 cd_203 = true := by decide +kernel
theorem mo_203 : am_mo ((⟨"BecauseOfModel", "least", "(II)V"⟩, prog_14_method_73_code, 3, none), 12, 3, 1, 2, 59, 1758, 123, 1757, 96) cd_203 3 := ⟨dk_203, ok_203, rfl, by decide, rfl, fun h => absurd h (by decide)⟩
theorem ok_204 : am_oka 12 false 2 59 0 cd_204 = true := by decide +kernel
theorem mo_204 : am_mo ((⟨"BecauseOfModel", "greatest", "(II)V"⟩, prog_14_method_74_code, 3, none), 12, 3, 1, 2, 59, 1762, 123, 1761, 97) cd_204 3 := ⟨dk_204, ok_204, rfl, by decide, rfl, fun h => absurd h (by decide)⟩
theorem ok_205 : am_oka 12 false 4 96 1 cd_205 = true := by decide +kernel
theorem mo_205 : am_mo ((⟨"BecauseOfModel", "ends", "(IIII)I"⟩, prog_14_method_76_code, 5, (some (.int))), 12, 5, 1, 4, 96, 1747, 123, 1745, 1746) cd_205 5 := ⟨dk_205, ok_205, rfl, by decide, rfl, fun h => absurd h (by decide)⟩
theorem ok_206 : am_oka 3 false 0 0 2 cd_206 = true := by decide +kernel
theorem mo_206 : am_mo ((⟨"BecauseOf$Fraction", "isAtLeast", "(I)Z"⟩, prog_5_method_5_code, 2, (some (.boolean))), 3, 2, 1, 0, 0, 1044, 118, 1042, 1043) cd_206 2 := ⟨dk_206, ok_206, rfl, by decide, rfl, fun h => absurd h (by decide)⟩
theorem ok_207 : am_oka 11 false 6 133 1 cd_207 = true := by decide +kernel
theorem mo_207 : am_mo ((⟨"BecauseOf", "claim", "(IIII)I"⟩, prog_1_method_25_code, 5, (some (.int))), 11, 5, 1, 6, 133, 1040, 113, 1038, 1039) cd_207 5 := ⟨dk_207, ok_207, rfl, by decide, rfl, fun h => absurd h (by decide)⟩
theorem ok_208 : am_oka 12 false 4 96 1 cd_208 = true := by decide +kernel
theorem mo_208 : am_mo ((⟨"BecauseOfModel", "claim", "(IIII)I"⟩, prog_14_method_77_code, 5, (some (.int))), 12, 5, 1, 4, 96, 1766, 123, 1764, 1765) cd_208 5 := ⟨dk_208, ok_208, rfl, by decide, rfl, fun h => absurd h (by decide)⟩
theorem ok_209 : am_oka 11 false 6 133 1 cd_209 = true := by decide +kernel
theorem mo_209 : am_mo ((⟨"BecauseOf", "sight", "(IIII)I"⟩, prog_1_method_26_code, 5, (some (.int))), 11, 5, 1, 6, 133, 1049, 113, 1047, 1048) cd_209 5 := ⟨dk_209, ok_209, rfl, by decide, rfl, fun h => absurd h (by decide)⟩
theorem ok_210 : am_oka 12 false 1 21 0 cd_210 = true := by decide +kernel
theorem mo_210 : am_mo ((⟨"BecauseOfModel", "looks", "(II)V"⟩, prog_14_method_78_code, 6, none), 12, 3, 1, 1, 21, 1776, 123, 1775, 98) cd_210 6 := ⟨dk_210, ok_210, rfl, by decide, rfl, fun h => absurd h (by decide)⟩
theorem ok_211 : am_oka 12 false 4 96 1 cd_211 = true := by decide +kernel
theorem mo_211 : am_mo ((⟨"BecauseOfModel", "sight", "(IIII)I"⟩, prog_14_method_79_code, 5, (some (.int))), 12, 5, 1, 4, 96, 1772, 123, 1770, 1771) cd_211 5 := ⟨dk_211, ok_211, rfl, by decide, rfl, fun h => absurd h (by decide)⟩
theorem ok_212 : am_oka 8 false 3 68 2 cd_212 = true := by decide +kernel
theorem mo_212 : am_mo ((⟨"BecauseOf$Taken", "isEven", "(III)Z"⟩, prog_10_method_6_code, 6, (some (.boolean))), 8, 4, 1, 3, 68, 1057, 117, 1055, 1056) cd_212 6 := ⟨dk_212, ok_212, rfl, by decide, rfl, fun h => absurd h (by decide)⟩
theorem ok_213 : am_oka 11 false 4 93 2 cd_213 = true := by decide +kernel
theorem mo_213 : am_mo ((⟨"BecauseOf", "officesAreEven", "()Z"⟩, prog_1_method_53_code, 2, (some (.boolean))), 11, 1, 1, 4, 93, 1062, 113, 1061, 36) cd_213 2 := ⟨dk_213, ok_213, rfl, by decide, rfl, fun h => absurd h (by decide)⟩
theorem ok_214 : am_oka 11 false 6 133 1 cd_214 = true := by decide +kernel
theorem mo_214 : am_mo ((⟨"BecauseOf", "even", "(II)I"⟩, prog_1_method_27_code, 3, (some (.int))), 11, 3, 1, 6, 133, 1053, 113, 1051, 1052) cd_214 3 := ⟨dk_214, ok_214, rfl, by decide, rfl, fun h => absurd h (by decide)⟩
theorem ok_215 : am_oka 12 false 0 0 2 cd_215 = true := by decide +kernel
theorem mo_215 : am_mo ((⟨"BecauseOfModel", "isEven", "()Z"⟩, prog_14_method_80_code, 1, (some (.boolean))), 12, 1, 1, 0, 0, 1784, 123, 1783, 99) cd_215 1 := ⟨dk_215, ok_215, rfl, by decide, rfl, fun h => absurd h (by decide)⟩
theorem ok_216 : am_oka 12 false 4 96 1 cd_216 = true := by decide +kernel
theorem mo_216 : am_mo ((⟨"BecauseOfModel", "even", "(II)I"⟩, prog_14_method_81_code, 4, (some (.int))), 12, 3, 1, 4, 96, 1780, 123, 1778, 1779) cd_216 4 := ⟨dk_216, ok_216, rfl, by decide, rfl, fun h => absurd h (by decide)⟩
theorem ok_217 : am_oka 8 false 2 43 1 cd_217 = true := by decide +kernel
theorem mo_217 : am_mo ((⟨"BecauseOf$Taken", "withMark", "(IIII)I"⟩, prog_10_method_7_code, 9, (some (.int))), 8, 5, 1, 2, 43, 1071, 117, 1069, 1070) cd_217 9 := ⟨dk_217, ok_217, rfl, by decide, rfl, fun h => absurd h (by decide)⟩
theorem ok_218 : am_oka 11 false 6 133 1 cd_218 = true := by decide +kernel
theorem mo_218 : am_mo ((⟨"BecauseOf", "way", "(II)I"⟩, prog_1_method_28_code, 11, (some (.int))), 11, 3, 1, 6, 133, 1066, 113, 1064, 1065) cd_218 11 := ⟨dk_218, ok_218, rfl, by decide, rfl, fun h => absurd h (by decide)⟩
theorem ok_219 : am_oka 12 false 4 96 1 cd_219 = true := by decide +kernel
theorem mo_219 : am_mo ((⟨"BecauseOfModel", "way", "(II)I"⟩, prog_14_method_82_code, 10, (some (.int))), 12, 3, 1, 4, 96, 1788, 123, 1786, 1787) cd_219 10 := ⟨dk_219, ok_219, rfl, by decide, rfl, fun h => absurd h (by decide)⟩
theorem ok_220 : am_oka 11 false 0 0 2 cd_220 = true := by decide +kernel
theorem mo_220 : am_mo ((⟨"BecauseOf", "isMeasure", "(I)Z"⟩, prog_1_method_45_code, 1, (some (.boolean))), 11, 1, 0, 0, 0, 1080, 113, 1079, 0) cd_220 1 := ⟨dk_220, ok_220, rfl, by decide, rfl, fun h => absurd h (by decide)⟩
theorem ok_221 : am_oka 8 false 2 42 2 cd_221 = true := by decide +kernel
theorem mo_221 : am_mo ((⟨"BecauseOf$Taken", "isJudged", "(II)Z"⟩, prog_10_method_10_code, 3, (some (.boolean))), 8, 3, 1, 2, 42, 1093, 117, 1092, 38) cd_221 3 := ⟨dk_221, ok_221, rfl, by decide, rfl, fun h => absurd h (by decide)⟩
theorem ok_222 : am_oka 8 false 3 64 1 cd_222 = true := by decide +kernel
theorem mo_222 : am_mo ((⟨"BecauseOf$Taken", "metOf", "(II)I"⟩, prog_10_method_9_code, 7, (some (.int))), 8, 3, 1, 3, 64, 1088, 117, 1086, 1087) cd_222 7 := ⟨dk_222, ok_222, rfl, by decide, rfl, fun h => absurd h (by decide)⟩
theorem ok_223 : am_oka 8 false 3 64 1 cd_223 = true := by decide +kernel
theorem mo_223 : am_mo ((⟨"BecauseOf$Taken", "judgedOf", "(II)I"⟩, prog_10_method_8_code, 6, (some (.int))), 8, 3, 1, 3, 64, 1097, 117, 1095, 1096) cd_223 6 := ⟨dk_223, ok_223, rfl, by decide, rfl, fun h => absurd h (by decide)⟩
theorem ok_224 : am_oka 11 false 4 90 0 cd_224 = true := by decide +kernel
theorem mo_224 : am_mo ((⟨"BecauseOf", "setSplit", "(I)V"⟩, prog_1_method_52_code, 2, none), 11, 2, 1, 4, 90, 1084, 113, 1083, 37) cd_224 2 := ⟨dk_224, ok_224, rfl, by decide, rfl, fun h => absurd h (by decide)⟩
theorem ok_225 : am_oka 11 false 6 133 1 cd_225 = true := by decide +kernel
theorem mo_225 : am_mo ((⟨"BecauseOf", "split", "(III)I"⟩, prog_1_method_29_code, 4, (some (.int))), 11, 4, 1, 6, 133, 1077, 113, 1075, 1076) cd_225 4 := ⟨dk_225, ok_225, rfl, by decide, rfl, fun h => absurd h (by decide)⟩
theorem ok_226 : am_oka 12 false 1 21 0 cd_226 = true := by decide +kernel
theorem mo_226 : am_mo ((⟨"BecauseOfModel", "asWas", "()V"⟩, prog_14_method_85_code, 2, none), 12, 1, 1, 1, 21, 1798, 123, 1797, 100) cd_226 2 := ⟨dk_226, ok_226, rfl, by decide, rfl, fun h => absurd h (by decide)⟩
theorem ok_227 : am_oka 12 false 2 59 0 cd_227 = true := by decide +kernel
theorem mo_227 : am_mo ((⟨"BecauseOfModel", "splits", "(I)V"⟩, prog_14_method_83_code, 6, none), 12, 2, 1, 2, 59, 1802, 123, 1801, 101) cd_227 6 := ⟨dk_227, ok_227, rfl, by decide, rfl, fun h => absurd h (by decide)⟩
theorem ok_228 : am_oka 12 false 4 96 1 cd_228 = true := by decide +kernel
theorem mo_228 : am_mo ((⟨"BecauseOfModel", "split", "(III)I"⟩, prog_14_method_86_code, 4, (some (.int))), 12, 4, 1, 4, 96, 1794, 123, 1792, 1793) cd_228 4 := ⟨dk_228, ok_228, rfl, by decide, rfl, fun h => absurd h (by decide)⟩
theorem ok_229 : am_oka 11 false 0 0 2 cd_229 = true := by decide +kernel
theorem mo_229 : am_mo ((⟨"BecauseOf", "isWidth", "(I)Z"⟩, prog_1_method_46_code, 1, (some (.boolean))), 11, 1, 0, 0, 0, 1104, 113, 1103, 0) cd_229 1 := ⟨dk_229, ok_229, rfl, by decide, rfl, fun h => absurd h (by decide)⟩
theorem ok_230 : am_oka 3 false 1 24 2 cd_230 = true := by decide +kernel
theorem mo_230 : am_mo ((⟨"BecauseOf$Fraction", "isWithin", "(I)Z"⟩, prog_5_method_4_code, 2, (some (.boolean))), 3, 2, 1, 1, 24, 1108, 118, 1106, 1107) cd_230 2 := ⟨dk_230, ok_230, rfl, by decide, rfl, fun h => absurd h (by decide)⟩
theorem ok_231 : am_oka 11 false 6 133 1 cd_231 = true := by decide +kernel
theorem mo_231 : am_mo ((⟨"BecauseOf", "holds", "(III)I"⟩, prog_1_method_30_code, 4, (some (.int))), 11, 4, 1, 6, 133, 1101, 113, 1099, 1100) cd_231 4 := ⟨dk_231, ok_231, rfl, by decide, rfl, fun h => absurd h (by decide)⟩
theorem ok_232 : am_oka 12 false 0 0 2 cd_232 = true := by decide +kernel
theorem mo_232 : am_mo ((⟨"BecauseOfModel", "isWithin", "(I)Z"⟩, prog_14_method_84_code, 2, (some (.boolean))), 12, 2, 1, 0, 0, 1810, 123, 1809, 102) cd_232 2 := ⟨dk_232, ok_232, rfl, by decide, rfl, fun h => absurd h (by decide)⟩
theorem ok_233 : am_oka 12 false 4 96 1 cd_233 = true := by decide +kernel
theorem mo_233 : am_mo ((⟨"BecauseOfModel", "holds", "(III)I"⟩, prog_14_method_87_code, 4, (some (.int))), 12, 4, 1, 4, 96, 1806, 123, 1804, 1805) cd_233 4 := ⟨dk_233, ok_233, rfl, by decide, rfl, fun h => absurd h (by decide)⟩
theorem ok_234 : am_oka 0 false 2 43 0 cd_234 = true := by decide +kernel
theorem mo_234 : am_mo ((⟨"BecauseOf$Bars", "gathe\x72", "(LBecauseOf$Cases;LBecauseOf$Taken;I)V"⟩, prog_2_method_2_code, 10, none), 0, 4, 1, 2, 43, 1116, 120, 1114, 1115) cd_234 10 := ⟨dk_234, ok_234, rfl, by decide, rfl, fun h => absurd h (by decide)⟩
theorem ok_235 : am_oka 0 false 1 20 1 cd_235 = true := by decide +kernel
theorem mo_235 : am_mo ((⟨"BecauseOf$Bars", "goodAt", "(II)I"⟩, prog_2_method_3_code, 3, (some (.int))), 0, 3, 1, 1, 20, 1134, 120, 1133, 40) cd_235 3 := ⟨dk_235, ok_235, rfl, by decide, rfl, fun h => absurd h (by decide)⟩
theorem ok_236 : am_oka 0 false 1 20 1 cd_236 = true := by decide +kernel
theorem mo_236 : am_mo ((⟨"BecauseOf$Bars", "badAt", "(II)I"⟩, prog_2_method_4_code, 3, (some (.int))), 0, 3, 1, 1, 20, 1138, 120, 1137, 41) cd_236 3 := ⟨dk_236, ok_236, rfl, by decide, rfl, fun h => absurd h (by decide)⟩
theorem ok_237 : am_oka 0 false 2 42 1 cd_237 = true := by decide +kernel
theorem mo_237 : am_mo ((⟨"BecauseOf$Bars", "metOf", "(III)I"⟩, prog_2_method_6_code, 4, (some (.int))), 0, 4, 1, 2, 42, 1130, 120, 1129, 39) cd_237 4 := ⟨dk_237, ok_237, rfl, by decide, rfl, fun h => absurd h (by decide)⟩
theorem ok_238 : am_oka 0 false 2 42 1 cd_238 = true := by decide +kernel
theorem mo_238 : am_mo ((⟨"BecauseOf$Bars", "judgedOf", "(III)I"⟩, prog_2_method_7_code, 4, (some (.int))), 0, 4, 1, 2, 42, 1142, 120, 1141, 42) cd_238 4 := ⟨dk_238, ok_238, rfl, by decide, rfl, fun h => absurd h (by decide)⟩
theorem ok_239 : am_oka 0 false 3 65 0 cd_239 = true := by decide +kernel
theorem mo_239 : am_mo ((⟨"BecauseOf$Bars", "setSplit", "(LBecauseOf$Fraction;III)V"⟩, prog_2_method_5_code, 5, none), 0, 5, 1, 3, 65, 1126, 120, 1124, 1125) cd_239 5 := ⟨dk_239, ok_239, rfl, by decide, rfl, fun h => absurd h (by decide)⟩
theorem ok_240 : am_oka 0 false 2 42 1 cd_240 = true := by decide +kernel
theorem mo_240 : am_mo ((⟨"BecauseOf$Bars", "rightOf", "(II)I"⟩, prog_2_method_8_code, 3, (some (.int))), 0, 3, 1, 2, 42, 1147, 120, 1145, 1146) cd_240 3 := ⟨dk_240, ok_240, rfl, by decide, rfl, fun h => absurd h (by decide)⟩
theorem ok_241 : am_oka 11 false 6 133 1 cd_241 = true := by decide +kernel
theorem mo_241 : am_mo ((⟨"BecauseOf", "nearest", "(IIIII)I"⟩, prog_1_method_31_code, 10, (some (.int))), 11, 6, 1, 6, 133, 1112, 113, 1110, 1111) cd_241 10 := ⟨dk_241, ok_241, rfl, by decide, rfl, fun h => absurd h (by decide)⟩
theorem ok_242 : am_oka 12 false 1 22 1 cd_242 = true := by decide +kernel
theorem mo_242 : am_mo ((⟨"BecauseOfModel", "bars", "(III)I"⟩, prog_14_method_88_code, 9, (some (.int))), 12, 4, 1, 1, 22, 1818, 123, 1817, 103) cd_242 9 := ⟨dk_242, ok_242, rfl, by decide, rfl, fun h => absurd h (by decide)⟩
theorem ok_243 : am_oka 12 false 4 96 1 cd_243 = true := by decide +kernel
theorem mo_243 : am_mo ((⟨"BecauseOfModel", "nearest", "(IIIII)I"⟩, prog_14_method_89_code, 10, (some (.int))), 12, 6, 1, 4, 96, 1814, 123, 1812, 1813) cd_243 10 := ⟨dk_243, ok_243, rfl, by decide, rfl, fun h => absurd h (by decide)⟩
theorem ok_244 : am_oka 11 false 6 133 1 cd_244 = true := by decide +kernel
theorem mo_244 : am_mo ((⟨"BecauseOf", "clash", "(IIIII)I"⟩, prog_1_method_32_code, 8, (some (.int))), 11, 6, 1, 6, 133, 1151, 113, 1149, 1150) cd_244 8 := ⟨dk_244, ok_244, rfl, by decide, rfl, fun h => absurd h (by decide)⟩
theorem ok_245 : am_oka 12 false 4 96 1 cd_245 = true := by decide +kernel
theorem mo_245 : am_mo ((⟨"BecauseOfModel", "clash", "(IIIII)I"⟩, prog_14_method_90_code, 9, (some (.int))), 12, 6, 1, 4, 96, 1822, 123, 1820, 1821) cd_245 9 := ⟨dk_245, ok_245, rfl, by decide, rfl, fun h => absurd h (by decide)⟩
theorem ok_246 : am_oka 13 false 0 0 0 cd_246 = true := by decide +kernel
theorem mo_246 : am_mo ((⟨"java/util/Arrays", "fill", "([JJ)V"⟩, prog_22_method_101_code, 5, none), 13, 2, 0, 0, 0, 1162, 124, 1161, 0) cd_246 5 := ⟨dk_246, ok_246, rfl, by decide, rfl, fun h => absurd h (by decide)⟩
theorem ok_247 : am_oka 7 false 0 0 0 cd_247 = true := by decide +kernel
theorem mo_247 : am_mo ((⟨"BecauseOf$ShortRules", "put", "(II)V"⟩, prog_9_method_4_code, 4, none), 7, 3, 1, 0, 0, 1173, 121, 1172, 44) cd_247 4 := ⟨dk_247, ok_247, rfl, by decide, rfl, fun h => absurd h (by decide)⟩
theorem ok_248 : am_oka 7 false 1 23 0 cd_248 = true := by decide +kernel
theorem mo_248 : am_mo ((⟨"BecauseOf$ShortRules", "putMark", "(III)V"⟩, prog_9_method_3_code, 5, none), 7, 4, 1, 1, 23, 1169, 121, 1168, 43) cd_248 5 := ⟨dk_248, ok_248, rfl, by decide, rfl, fun h => absurd h (by decide)⟩
theorem ok_249 : am_oka 7 false 2 47 0 cd_249 = true := by decide +kernel
theorem mo_249 : am_mo ((⟨"BecauseOf$ShortRules", "gathe\x72", "(LBecauseOf$Cases;LBecauseOf$Taken;)V"⟩, prog_9_method_2_code, 6, none), 7, 3, 1, 2, 47, 1159, 121, 1157, 1158) cd_249 6 := ⟨dk_249, ok_249, rfl, by decide, rfl, fun h => absurd h (by decide)⟩
theorem ok_250 : am_oka 17 false 0 0 1 cd_250 = true := by decide +kernel
theorem mo_250 : am_mo ((⟨"java/lang/Long", "bitCount", "(J)I"⟩, prog_16_method_50_code, 2, (some (.int))), 17, 1, 0, 0, 0, 1194, 133, 1193, 0) cd_250 2 := ⟨dk_250, ok_250, rfl, by decide, rfl, fun h => absurd h (by decide)⟩
theorem ok_251 : am_oka 7 false 1 23 1 cd_251 = true := by decide +kernel
theorem mo_251 : am_mo ((⟨"BecauseOf$ShortRules", "wrongOf", "(II)I"⟩, prog_9_method_8_code, 5, (some (.int))), 7, 3, 1, 1, 23, 1187, 121, 1186, 46) cd_251 5 := ⟨dk_251, ok_251, rfl, by decide, rfl, fun h => absurd h (by decide)⟩
theorem ok_252 : am_oka 7 false 0 0 2 cd_252 = true := by decide +kernel
theorem mo_252 : am_mo ((⟨"BecauseOf$ShortRules", "isOfTrait", "(I)Z"⟩, prog_9_method_7_code, 1, (some (.boolean))), 7, 1, 0, 0, 0, 1200, 121, 1199, 0) cd_252 1 := ⟨dk_252, ok_252, rfl, by decide, rfl, fun h => absurd h (by decide)⟩
theorem ok_253 : am_oka 7 false 2 47 0 cd_253 = true := by decide +kernel
theorem mo_253 : am_mo ((⟨"BecauseOf$ShortRules", "offe\x72", "(II)V"⟩, prog_9_method_6_code, 5, none), 7, 3, 1, 2, 47, 1183, 121, 1182, 45) cd_253 5 := ⟨dk_253, ok_253, rfl, by decide, rfl, fun h => absurd h (by decide)⟩
theorem ok_254 : am_oka 7 false 3 71 0 cd_254 = true := by decide +kernel
theorem mo_254 : am_mo ((⟨"BecauseOf$ShortRules", "search", "(I)V"⟩, prog_9_method_5_code, 4, none), 7, 2, 1, 3, 71, 1179, 121, 1177, 1178) cd_254 4 := ⟨dk_254, ok_254, rfl, by decide, rfl, fun h => absurd h (by decide)⟩
theorem ok_255 : am_oka 11 false 6 133 1 cd_255 = true := by decide +kernel
theorem mo_255 : am_mo ((⟨"BecauseOf", "few", "(II)I"⟩, prog_1_method_33_code, 4, (some (.int))), 11, 3, 1, 6, 133, 1155, 113, 1153, 1154) cd_255 4 := ⟨dk_255, ok_255, rfl, by decide, rfl, fun h => absurd h (by decide)⟩
theorem ok_256 : am_oka 12 false 1 22 2 cd_256 = true := by decide +kernel
theorem mo_256 : am_mo ((⟨"BecauseOfModel", "isSo", "(II)Z"⟩, prog_14_method_91_code, 4, (some (.boolean))), 12, 3, 1, 1, 22, 1843, 123, 1842, 107) cd_256 4 := ⟨dk_256, ok_256, rfl, by decide, rfl, fun h => absurd h (by decide)⟩
theorem ok_257 : am_oka 12 false 2 45 1 cd_257 = true := by decide +kernel
theorem mo_257 : am_mo ((⟨"BecauseOfModel", "wrong", "(II)I"⟩, prog_14_method_92_code, 6, (some (.int))), 12, 3, 1, 2, 45, 1839, 123, 1838, 106) cd_257 6 := ⟨dk_257, ok_257, rfl, by decide, rfl, fun h => absurd h (by decide)⟩
theorem ok_258 : am_oka 12 false 3 70 0 cd_258 = true := by decide +kernel
theorem mo_258 : am_mo ((⟨"BecauseOfModel", "tries", "(II)V"⟩, prog_14_method_93_code, 5, none), 12, 3, 1, 3, 70, 1835, 123, 1834, 105) cd_258 5 := ⟨dk_258, ok_258, rfl, by decide, rfl, fun h => absurd h (by decide)⟩
theorem ok_259 : am_oka 12 false 4 94 0 cd_259 = true := by decide +kernel
theorem mo_259 : am_mo ((⟨"BecauseOfModel", "shortest", "(I)V"⟩, prog_14_method_94_code, 4, none), 12, 2, 1, 4, 94, 1831, 123, 1830, 104) cd_259 4 := ⟨dk_259, ok_259, rfl, by decide, rfl, fun h => absurd h (by decide)⟩
theorem ok_260 : am_oka 12 false 5 117 1 cd_260 = true := by decide +kernel
theorem mo_260 : am_mo ((⟨"BecauseOfModel", "few", "(II)I"⟩, prog_14_method_95_code, 4, (some (.int))), 12, 3, 1, 5, 117, 1826, 123, 1824, 1825) cd_260 4 := ⟨dk_260, ok_260, rfl, by decide, rfl, fun h => absurd h (by decide)⟩
theorem ok_261 : am_oka 11 false 6 133 1 cd_261 = true := by decide +kernel
theorem mo_261 : am_mo ((⟨"BecauseOf", "best", "(III)I"⟩, prog_1_method_34_code, 4, (some (.int))), 11, 4, 1, 6, 133, 1204, 113, 1202, 1203) cd_261 4 := ⟨dk_261, ok_261, rfl, by decide, rfl, fun h => absurd h (by decide)⟩
theorem ok_262 : am_oka 12 false 5 117 1 cd_262 = true := by decide +kernel
theorem mo_262 : am_mo ((⟨"BecauseOfModel", "best", "(III)I"⟩, prog_14_method_96_code, 4, (some (.int))), 12, 4, 1, 5, 117, 1847, 123, 1845, 1846) cd_262 4 := ⟨dk_262, ok_262, rfl, by decide, rfl, fun h => absurd h (by decide)⟩
theorem ok_263 : am_oka 11 false 6 133 1 cd_263 = true := by decide +kernel
theorem mo_263 : am_mo ((⟨"BecauseOf", "own", "(III)I"⟩, prog_1_method_35_code, 9, (some (.int))), 11, 4, 1, 6, 133, 1208, 113, 1206, 1207) cd_263 9 := ⟨dk_263, ok_263, rfl, by decide, rfl, fun h => absurd h (by decide)⟩
theorem ok_264 : am_oka 12 false 4 96 1 cd_264 = true := by decide +kernel
theorem mo_264 : am_mo ((⟨"BecauseOfModel", "own", "(III)I"⟩, prog_14_method_97_code, 7, (some (.int))), 12, 4, 1, 4, 96, 1851, 123, 1849, 1850) cd_264 7 := ⟨dk_264, ok_264, rfl, by decide, rfl, fun h => absurd h (by decide)⟩
theorem ok_265 : am_oka 2 false 0 0 0 cd_265 = true := by decide +kernel
theorem mo_265 : am_mo ((⟨"BecauseOf$Change", "keep", "(IIIII)V"⟩, prog_4_method_4_code, 6, none), 2, 6, 1, 0, 0, 1222, 122, 1221, 48) cd_265 6 := ⟨dk_265, ok_265, rfl, by decide, rfl, fun h => absurd h (by decide)⟩
theorem ok_266 : am_oka 2 false 0 0 2 cd_266 = true := by decide +kernel
theorem mo_266 : am_mo ((⟨"BecauseOf$Change", "isNamed", "(LBecauseOf$Test;I)Z"⟩, prog_4_method_5_code, 2, (some (.boolean))), 2, 2, 0, 0, 0, 1230, 122, 1229, 0) cd_266 2 := ⟨dk_266, ok_266, rfl, by decide, rfl, fun h => absurd h (by decide)⟩
theorem ok_267 : am_oka 2 false 1 24 1 cd_267 = true := by decide +kernel
theorem mo_267 : am_mo ((⟨"BecauseOf$Change", "stepsFrom", "(II)I"⟩, prog_4_method_6_code, 2, (some (.int))), 2, 2, 0, 1, 24, 1233, 122, 1232, 0) cd_267 2 := ⟨dk_267, ok_267, rfl, by decide, rfl, fun h => absurd h (by decide)⟩
theorem ok_268 : am_oka 2 false 2 55 0 cd_268 = true := by decide +kernel
theorem mo_268 : am_mo ((⟨"BecauseOf$Change", "seekOne", "(LBecauseOf$Test;[II)V"⟩, prog_4_method_7_code, 7, none), 2, 4, 1, 2, 55, 1227, 122, 1226, 49) cd_268 7 := ⟨dk_268, ok_268, rfl, by decide, rfl, fun h => absurd h (by decide)⟩
theorem ok_269 : am_oka 2 false 2 55 0 cd_269 = true := by decide +kernel
theorem mo_269 : am_mo ((⟨"BecauseOf$Change", "seekSecond", "(LBecauseOf$Test;[III)V"⟩, prog_4_method_9_code, 9, none), 2, 5, 1, 2, 55, 1242, 122, 1241, 51) cd_269 9 := ⟨dk_269, ok_269, rfl, by decide, rfl, fun h => absurd h (by decide)⟩
theorem ok_270 : am_oka 2 false 3 83 0 cd_270 = true := by decide +kernel
theorem mo_270 : am_mo ((⟨"BecauseOf$Change", "seekTwo", "(LBecauseOf$Test;[II)V"⟩, prog_4_method_8_code, 7, none), 2, 4, 1, 3, 83, 1238, 122, 1237, 50) cd_270 7 := ⟨dk_270, ok_270, rfl, by decide, rfl, fun h => absurd h (by decide)⟩
theorem ok_271 : am_oka 2 false 4 109 0 cd_271 = true := by decide +kernel
theorem mo_271 : am_mo ((⟨"BecauseOf$Change", "seek", "(LBecauseOf$Test;[I)V"⟩, prog_4_method_3_code, 4, none), 2, 3, 1, 4, 109, 1218, 122, 1216, 1217) cd_271 4 := ⟨dk_271, ok_271, rfl, by decide, rfl, fun h => absurd h (by decide)⟩
theorem ok_272 : am_oka 2 false 0 0 1 cd_272 = true := by decide +kernel
theorem mo_272 : am_mo ((⟨"BecauseOf$Change", "tell", "(I)I"⟩, prog_4_method_2_code, 2, (some (.int))), 2, 2, 1, 0, 0, 1246, 122, 1244, 1245) cd_272 2 := ⟨dk_272, ok_272, rfl, by decide, rfl, fun h => absurd h (by decide)⟩
theorem ok_273 : am_oka 11 false 5 132 1 cd_273 = true := by decide +kernel
theorem mo_273 : am_mo ((⟨"BecauseOf", "change", "(III)I"⟩, prog_1_method_36_code, 5, (some (.int))), 11, 4, 1, 5, 132, 1214, 113, 1212, 1213) cd_273 5 := ⟨dk_273, ok_273, rfl, by decide, rfl, fun h => absurd h (by decide)⟩
theorem ok_274 : am_oka 12 false 0 0 0 cd_274 = true := by decide +kernel
theorem mo_274 : am_mo ((⟨"BecauseOfModel", "keeps", "(IIIIII)V"⟩, prog_14_method_99_code, 7, none), 12, 7, 1, 0, 0, 1859, 123, 1858, 108) cd_274 7 := ⟨dk_274, ok_274, rfl, by decide, rfl, fun h => absurd h (by decide)⟩
theorem ok_275 : am_oka 12 false 3 73 2 cd_275 = true := by decide +kernel
theorem mo_275 : am_mo ((⟨"BecauseOfModel", "isTold", "(IIIIII)Z"⟩, prog_14_method_100_code, 10, (some (.boolean))), 12, 7, 1, 3, 73, 1863, 123, 1862, 109) cd_275 10 := ⟨dk_275, ok_275, rfl, by decide, rfl, fun h => absurd h (by decide)⟩
theorem ok_276 : am_oka 12 false 1 22 1 cd_276 = true := by decide +kernel
theorem mo_276 : am_mo ((⟨"BecauseOfModel", "steps", "(III)I"⟩, prog_14_method_98_code, 5, (some (.int))), 12, 4, 1, 1, 22, 1867, 123, 1866, 110) cd_276 5 := ⟨dk_276, ok_276, rfl, by decide, rfl, fun h => absurd h (by decide)⟩
theorem ok_277 : am_oka 12 false 4 102 0 cd_277 = true := by decide +kernel
theorem mo_277 : am_mo ((⟨"BecauseOfModel", "second", "(IIII)V"⟩, prog_14_method_101_code, 8, none), 12, 5, 1, 4, 102, 1871, 123, 1870, 111) cd_277 8 := ⟨dk_277, ok_277, rfl, by decide, rfl, fun h => absurd h (by decide)⟩
theorem ok_278 : am_oka 12 false 5 129 1 cd_278 = true := by decide +kernel
theorem mo_278 : am_mo ((⟨"BecauseOfModel", "change", "(III)I"⟩, prog_14_method_102_code, 6, (some (.int))), 12, 4, 1, 5, 129, 1855, 123, 1853, 1854) cd_278 6 := ⟨dk_278, ok_278, rfl, by decide, rfl, fun h => absurd h (by decide)⟩
theorem ok_279 : am_oka 1 false 1 26 0 cd_279 = true := by decide +kernel
theorem mo_279 : am_mo ((⟨"BecauseOf$Cases", "copyFrom", "(LBecauseOf$Cases;)V"⟩, prog_3_method_13_code, 2, none), 1, 2, 1, 1, 26, 1254, 114, 1252, 1253) cd_279 2 := ⟨dk_279, ok_279, rfl, by decide, rfl, fun h => absurd h (by decide)⟩
theorem ok_280 : am_oka 4 false 1 26 0 cd_280 = true := by decide +kernel
theorem mo_280 : am_mo ((⟨"BecauseOf$Letters", "copyFrom", "(LBecauseOf$Letters;)V"⟩, prog_6_method_6_code, 2, none), 4, 2, 1, 1, 26, 1259, 115, 1257, 1258) cd_280 2 := ⟨dk_280, ok_280, rfl, by decide, rfl, fun h => absurd h (by decide)⟩
theorem ok_281 : am_oka 11 false 2 47 1 cd_281 = true := by decide +kernel
theorem mo_281 : am_mo ((⟨"BecauseOf", "image", "(I)I"⟩, prog_1_method_37_code, 4, (some (.int))), 11, 2, 1, 2, 47, 1250, 113, 1248, 1249) cd_281 4 := ⟨dk_281, ok_281, rfl, by decide, rfl, fun h => absurd h (by decide)⟩
theorem ok_282 : am_oka 12 false 1 25 1 cd_282 = true := by decide +kernel
theorem mo_282 : am_mo ((⟨"BecauseOfModel", "image", "(I)I"⟩, prog_14_method_103_code, 4, (some (.int))), 12, 2, 1, 1, 25, 1875, 123, 1873, 1874) cd_282 4 := ⟨dk_282, ok_282, rfl, by decide, rfl, fun h => absurd h (by decide)⟩
theorem ok_283 : am_oka 11 false 2 47 1 cd_283 = true := by decide +kernel
theorem mo_283 : am_mo ((⟨"BecauseOf", "back", "(I)I"⟩, prog_1_method_38_code, 4, (some (.int))), 11, 2, 1, 2, 47, 1264, 113, 1262, 1263) cd_283 4 := ⟨dk_283, ok_283, rfl, by decide, rfl, fun h => absurd h (by decide)⟩
theorem ok_284 : am_oka 12 false 1 25 1 cd_284 = true := by decide +kernel
theorem mo_284 : am_mo ((⟨"BecauseOfModel", "back", "(I)I"⟩, prog_14_method_104_code, 4, (some (.int))), 12, 2, 1, 1, 25, 1879, 123, 1877, 1878) cd_284 4 := ⟨dk_284, ok_284, rfl, by decide, rfl, fun h => absurd h (by decide)⟩
theorem ok_285 : am_oka 11 false 0 0 1 cd_285 = true := by decide +kernel
theorem mo_285 : am_mo ((⟨"BecauseOf", "count", "(I)I"⟩, prog_1_method_39_code, 2, (some (.int))), 11, 2, 1, 0, 0, 1268, 113, 1266, 1267) cd_285 2 := ⟨dk_285, ok_285, rfl, by decide, rfl, fun h => absurd h (by decide)⟩
theorem ok_286 : am_oka 12 false 0 0 1 cd_286 = true := by decide +kernel
theorem mo_286 : am_mo ((⟨"BecauseOfModel", "count", "(I)I"⟩, prog_14_method_105_code, 2, (some (.int))), 12, 2, 1, 0, 0, 1883, 123, 1881, 1882) cd_286 2 := ⟨dk_286, ok_286, rfl, by decide, rfl, fun h => absurd h (by decide)⟩
theorem ok_287 : am_oka 11 false 6 133 1 cd_287 = true := by decide +kernel
theorem mo_287 : am_mo ((⟨"BecauseOf", "lacks", "(I)I"⟩, prog_1_method_15_code, 2, (some (.int))), 11, 2, 1, 6, 133, 901, 113, 899, 900) cd_287 2 := ⟨dk_287, ok_287, rfl, by decide, rfl, fun h => absurd h (by decide)⟩
theorem ok_288 : am_oka 12 false 4 96 1 cd_288 = true := by decide +kernel
theorem mo_288 : am_mo ((⟨"BecauseOfModel", "lacks", "(I)I"⟩, prog_14_method_59_code, 2, (some (.int))), 12, 2, 1, 4, 96, 1686, 123, 1684, 1685) cd_288 2 := ⟨dk_288, ok_288, rfl, by decide, rfl, fun h => absurd h (by decide)⟩
theorem am_oka_cons {o : Nat} {init : Bool} {fr lo rt : Nat} {c : List (Nat × Instr × Nat × Nat)} {r : am_P} (h : am_oka o init fr lo rt [c] = true) (k : am_oka o init fr lo rt r = true) : am_oka o init fr lo rt (c :: r) = true := by
  simp only [am_oka, List.all_cons, List.all_nil, Bool.and_true] at h k ⊢
  rw [h, k]; rfl
theorem ok_289_0 : am_oka 18 false 12 452 2 [cd_289_0] = true := by decide +kernel
theorem ok_289_1 : am_oka 18 false 12 452 2 [cd_289_1] = true := by decide +kernel
theorem ok_289_2 : am_oka 18 false 12 452 2 [cd_289_2] = true := by decide +kernel
theorem ok_289_3 : am_oka 18 false 12 452 2 [cd_289_3] = true := by decide +kernel
theorem ok_289_4 : am_oka 18 false 12 452 2 [cd_289_4] = true := by decide +kernel
theorem ok_289_5 : am_oka 18 false 12 452 2 [cd_289_5] = true := by decide +kernel
theorem ok_289_6 : am_oka 18 false 12 452 2 [cd_289_6] = true := by decide +kernel
theorem ok_289_7 : am_oka 18 false 12 452 2 [cd_289_7] = true := by decide +kernel
theorem ok_289_8 : am_oka 18 false 12 452 2 [cd_289_8] = true := by decide +kernel
theorem ok_289_9 : am_oka 18 false 12 452 2 [cd_289_9] = true := by decide +kernel
theorem ok_289_10 : am_oka 18 false 12 452 2 [cd_289_10] = true := by decide +kernel
theorem ok_289_11 : am_oka 18 false 12 452 2 [cd_289_11] = true := by decide +kernel
theorem ok_289_12 : am_oka 18 false 12 452 2 [cd_289_12] = true := by decide +kernel
theorem ok_289_13 : am_oka 18 false 12 452 2 [cd_289_13] = true := by decide +kernel
theorem ok_289_14 : am_oka 18 false 12 452 2 [cd_289_14] = true := by decide +kernel
theorem ok_289_15 : am_oka 18 false 12 452 2 [cd_289_15] = true := by decide +kernel
theorem ok_289_16 : am_oka 18 false 12 452 2 [cd_289_16] = true := by decide +kernel
theorem ok_289_17 : am_oka 18 false 12 452 2 [cd_289_17] = true := by decide +kernel
theorem ok_289_18 : am_oka 18 false 12 452 2 [cd_289_18] = true := by decide +kernel
theorem ok_289_19 : am_oka 18 false 12 452 2 [cd_289_19] = true := by decide +kernel
theorem ok_289_20 : am_oka 18 false 12 452 2 [cd_289_20] = true := by decide +kernel
theorem ok_289_21 : am_oka 18 false 12 452 2 [cd_289_21] = true := by decide +kernel
theorem ok_289_22 : am_oka 18 false 12 452 2 [cd_289_22] = true := by decide +kernel
theorem ok_289_23 : am_oka 18 false 12 452 2 [cd_289_23] = true := by decide +kernel
theorem ok_289_24 : am_oka 18 false 12 452 2 [cd_289_24] = true := by decide +kernel
theorem ok_289_25 : am_oka 18 false 12 452 2 [cd_289_25] = true := by decide +kernel
theorem ok_289 : am_oka 18 false 12 452 2 cd_289 = true := am_oka_cons ok_289_0 (am_oka_cons ok_289_1 (am_oka_cons ok_289_2 (am_oka_cons ok_289_3 (am_oka_cons ok_289_4 (am_oka_cons ok_289_5 (am_oka_cons ok_289_6 (am_oka_cons ok_289_7 (am_oka_cons ok_289_8 (am_oka_cons ok_289_9 (am_oka_cons ok_289_10 (am_oka_cons ok_289_11 (am_oka_cons ok_289_12 (am_oka_cons ok_289_13 (am_oka_cons ok_289_14 (am_oka_cons ok_289_15 (am_oka_cons ok_289_16 (am_oka_cons ok_289_17 (am_oka_cons ok_289_18 (am_oka_cons ok_289_19 (am_oka_cons ok_289_20 (am_oka_cons ok_289_21 (am_oka_cons ok_289_22 (am_oka_cons ok_289_23 (am_oka_cons ok_289_24 (am_oka_cons ok_289_25 (rfl))))))))))))))))))))))))))
def am_all3 (P : am_Me → am_P → Nat → Prop) : List am_Me → List am_P → List Nat → Prop
  | x :: r, c :: cs, n :: ns => P x c n ∧ am_all3 P r cs ns
  | [], _, _ => True
  | _, _, _ => False
theorem am_all3.cons {P : am_Me → am_P → Nat → Prop} {x : am_Me} {c : am_P} {n : Nat} {r : List am_Me} {cs : List am_P} {ns : List Nat} (h : P x c n) (k : am_all3 P r cs ns) : am_all3 P (x :: r) (c :: cs) (n :: ns) := ⟨h, k⟩
theorem am_all3.nil {P : am_Me → am_P → Nat → Prop} {cs : List am_P} {ns : List Nat} : am_all3 P [] cs ns := trivial
theorem am_all3.app {P : am_Me → am_P → Nat → Prop} : ∀ {l1 : List am_Me} {c1 : List am_P} {n1 : List Nat} {l2 : List am_Me} {c2 : List am_P} {n2 : List Nat}, l1.length = c1.length → l1.length = n1.length → am_all3 P l1 c1 n1 → am_all3 P l2 c2 n2 → am_all3 P (l1 ++ l2) (c1 ++ c2) (n1 ++ n2)
  | [], [], [], _, _, _, _, _, _, h => h
  | x :: r, c :: cs, n :: ns, _, _, _, h1, h2, h, k => ⟨h.1, am_all3.app (Nat.succ.inj h1) (Nat.succ.inj h2) h.2 k⟩
theorem am_all3.at {P : am_Me → am_P → Nat → Prop} : ∀ {l : List am_Me} {cs : List am_P} {ns : List Nat} {y : Nat} {x : am_Me}, am_all3 P l cs ns → l[y]? = some x → P x (cs.getD y []) (ns.getD y 0)
  | x :: r, c :: cs, n :: ns, 0, _, h, e => by
    obtain rfl := Option.some.inj e
    exact h.1
  | x :: r, c :: cs, n :: ns, y + 1, z, h, e => am_all3.at (l := r) (cs := cs) (ns := ns) (y := y) (x := z) h.2 e
  | x :: r, [], ns, _, _, h, _ => h.elim
  | x :: r, c :: cs, [], _, _, h, _ => h.elim
  | [], _, _, _, _, _, e => by cases e
theorem mos_0 : am_all3 am_mo am_mt_0 [cd_0, cd_1, cd_2, cd_3, cd_4, cd_5, cd_6, cd_7, cd_8, cd_9, cd_10, cd_11, cd_12, cd_13, cd_14, cd_15, cd_16, cd_17, cd_18, cd_19, cd_20, cd_21, cd_22, cd_23, cd_24, cd_25, cd_26, cd_27, cd_28, cd_29] [1, 1, 1, 2, 1, 1, 1, 1, 1, 1, 1, 1, 1, 3, 5, 5, 5, 6, 7, 2, 1, 3, 4, 5, 2, 5, 2, 2, 2, 2] := (am_all3.cons mo_0 (am_all3.cons mo_1 (am_all3.cons mo_2 (am_all3.cons mo_3 (am_all3.cons mo_4 (am_all3.cons mo_5 (am_all3.cons mo_6 (am_all3.cons mo_7 (am_all3.cons mo_8 (am_all3.cons mo_9 (am_all3.cons mo_10 (am_all3.cons mo_11 (am_all3.cons mo_12 (am_all3.cons mo_13 (am_all3.cons mo_14 (am_all3.cons mo_15 (am_all3.cons mo_16 (am_all3.cons mo_17 (am_all3.cons mo_18 (am_all3.cons mo_19 (am_all3.cons mo_20 (am_all3.cons mo_21 (am_all3.cons mo_22 (am_all3.cons mo_23 (am_all3.cons mo_24 (am_all3.cons mo_25 (am_all3.cons mo_26 (am_all3.cons mo_27 (am_all3.cons mo_28 (am_all3.cons mo_29 am_all3.nil))))))))))))))))))))))))))))))
theorem mos_1 : am_all3 am_mo am_mt_1 [cd_30, cd_31, cd_32, cd_33, cd_34, cd_35, cd_36, cd_37, cd_38, cd_39, cd_40, cd_41, cd_42, cd_43, cd_44, cd_45, cd_46, cd_47, cd_48, cd_49, cd_50, cd_51, cd_52, cd_53, cd_54, cd_55, cd_56, cd_57, cd_58, cd_59] [3, 3, 3, 6, 3, 6, 2, 2, 2, 1, 1, 1, 1, 1, 3, 2, 2, 2, 7, 4, 4, 4, 3, 1, 1, 3, 2, 4, 1, 3] := (am_all3.cons mo_30 (am_all3.cons mo_31 (am_all3.cons mo_32 (am_all3.cons mo_33 (am_all3.cons mo_34 (am_all3.cons mo_35 (am_all3.cons mo_36 (am_all3.cons mo_37 (am_all3.cons mo_38 (am_all3.cons mo_39 (am_all3.cons mo_40 (am_all3.cons mo_41 (am_all3.cons mo_42 (am_all3.cons mo_43 (am_all3.cons mo_44 (am_all3.cons mo_45 (am_all3.cons mo_46 (am_all3.cons mo_47 (am_all3.cons mo_48 (am_all3.cons mo_49 (am_all3.cons mo_50 (am_all3.cons mo_51 (am_all3.cons mo_52 (am_all3.cons mo_53 (am_all3.cons mo_54 (am_all3.cons mo_55 (am_all3.cons mo_56 (am_all3.cons mo_57 (am_all3.cons mo_58 (am_all3.cons mo_59 am_all3.nil))))))))))))))))))))))))))))))
theorem mos_2 : am_all3 am_mo am_mt_2 [cd_60, cd_61, cd_62, cd_63, cd_64, cd_65, cd_66, cd_67, cd_68, cd_69, cd_70, cd_71, cd_72, cd_73, cd_74, cd_75, cd_76, cd_77, cd_78, cd_79, cd_80, cd_81, cd_82, cd_83, cd_84, cd_85, cd_86, cd_87, cd_88, cd_89] [3, 3, 2, 2, 3, 2, 3, 3, 4, 4, 3, 3, 5, 3, 2, 2, 1, 2, 2, 6, 3, 1, 2, 5, 2, 3, 2, 3, 2, 5] := (am_all3.cons mo_60 (am_all3.cons mo_61 (am_all3.cons mo_62 (am_all3.cons mo_63 (am_all3.cons mo_64 (am_all3.cons mo_65 (am_all3.cons mo_66 (am_all3.cons mo_67 (am_all3.cons mo_68 (am_all3.cons mo_69 (am_all3.cons mo_70 (am_all3.cons mo_71 (am_all3.cons mo_72 (am_all3.cons mo_73 (am_all3.cons mo_74 (am_all3.cons mo_75 (am_all3.cons mo_76 (am_all3.cons mo_77 (am_all3.cons mo_78 (am_all3.cons mo_79 (am_all3.cons mo_80 (am_all3.cons mo_81 (am_all3.cons mo_82 (am_all3.cons mo_83 (am_all3.cons mo_84 (am_all3.cons mo_85 (am_all3.cons mo_86 (am_all3.cons mo_87 (am_all3.cons mo_88 (am_all3.cons mo_89 am_all3.nil))))))))))))))))))))))))))))))
theorem mos_3 : am_all3 am_mo am_mt_3 [cd_90, cd_91, cd_92, cd_93, cd_94, cd_95, cd_96, cd_97, cd_98, cd_99, cd_100, cd_101, cd_102, cd_103, cd_104, cd_105, cd_106, cd_107, cd_108, cd_109, cd_110, cd_111, cd_112, cd_113, cd_114, cd_115, cd_116, cd_117, cd_118, cd_119] [3, 2, 2, 1, 3, 6, 3, 2, 2, 1, 2, 4, 3, 3, 14, 4, 2, 3, 5, 1, 3, 8, 3, 2, 4, 3, 4, 3, 2, 3] := (am_all3.cons mo_90 (am_all3.cons mo_91 (am_all3.cons mo_92 (am_all3.cons mo_93 (am_all3.cons mo_94 (am_all3.cons mo_95 (am_all3.cons mo_96 (am_all3.cons mo_97 (am_all3.cons mo_98 (am_all3.cons mo_99 (am_all3.cons mo_100 (am_all3.cons mo_101 (am_all3.cons mo_102 (am_all3.cons mo_103 (am_all3.cons mo_104 (am_all3.cons mo_105 (am_all3.cons mo_106 (am_all3.cons mo_107 (am_all3.cons mo_108 (am_all3.cons mo_109 (am_all3.cons mo_110 (am_all3.cons mo_111 (am_all3.cons mo_112 (am_all3.cons mo_113 (am_all3.cons mo_114 (am_all3.cons mo_115 (am_all3.cons mo_116 (am_all3.cons mo_117 (am_all3.cons mo_118 (am_all3.cons mo_119 am_all3.nil))))))))))))))))))))))))))))))
theorem mos_4 : am_all3 am_mo am_mt_4 [cd_120, cd_121, cd_122, cd_123, cd_124, cd_125, cd_126, cd_127, cd_128, cd_129, cd_130, cd_131, cd_132, cd_133, cd_134, cd_135, cd_136, cd_137, cd_138, cd_139, cd_140, cd_141, cd_142, cd_143, cd_144, cd_145, cd_146, cd_147, cd_148, cd_149] [2, 3, 2, 2, 4, 3, 1, 7, 4, 4, 7, 7, 5, 2, 3, 10, 11, 3, 5, 9, 5, 7, 4, 5, 3, 5, 4, 4, 2, 3] := (am_all3.cons mo_120 (am_all3.cons mo_121 (am_all3.cons mo_122 (am_all3.cons mo_123 (am_all3.cons mo_124 (am_all3.cons mo_125 (am_all3.cons mo_126 (am_all3.cons mo_127 (am_all3.cons mo_128 (am_all3.cons mo_129 (am_all3.cons mo_130 (am_all3.cons mo_131 (am_all3.cons mo_132 (am_all3.cons mo_133 (am_all3.cons mo_134 (am_all3.cons mo_135 (am_all3.cons mo_136 (am_all3.cons mo_137 (am_all3.cons mo_138 (am_all3.cons mo_139 (am_all3.cons mo_140 (am_all3.cons mo_141 (am_all3.cons mo_142 (am_all3.cons mo_143 (am_all3.cons mo_144 (am_all3.cons mo_145 (am_all3.cons mo_146 (am_all3.cons mo_147 (am_all3.cons mo_148 (am_all3.cons mo_149 am_all3.nil))))))))))))))))))))))))))))))
theorem mos_5 : am_all3 am_mo am_mt_5 [cd_150, cd_151, cd_152, cd_153, cd_154, cd_155, cd_156, cd_157, cd_158, cd_159, cd_160, cd_161, cd_162, cd_163, cd_164, cd_165, cd_166, cd_167, cd_168, cd_169, cd_170, cd_171, cd_172, cd_173, cd_174, cd_175, cd_176, cd_177, cd_178, cd_179] [4, 4, 5, 2, 2, 4, 2, 3, 3, 3, 4, 7, 2, 1, 6, 2, 7, 5, 3, 6, 4, 9, 3, 7, 2, 7, 7, 6, 8, 8] := (am_all3.cons mo_150 (am_all3.cons mo_151 (am_all3.cons mo_152 (am_all3.cons mo_153 (am_all3.cons mo_154 (am_all3.cons mo_155 (am_all3.cons mo_156 (am_all3.cons mo_157 (am_all3.cons mo_158 (am_all3.cons mo_159 (am_all3.cons mo_160 (am_all3.cons mo_161 (am_all3.cons mo_162 (am_all3.cons mo_163 (am_all3.cons mo_164 (am_all3.cons mo_165 (am_all3.cons mo_166 (am_all3.cons mo_167 (am_all3.cons mo_168 (am_all3.cons mo_169 (am_all3.cons mo_170 (am_all3.cons mo_171 (am_all3.cons mo_172 (am_all3.cons mo_173 (am_all3.cons mo_174 (am_all3.cons mo_175 (am_all3.cons mo_176 (am_all3.cons mo_177 (am_all3.cons mo_178 (am_all3.cons mo_179 am_all3.nil))))))))))))))))))))))))))))))
theorem mos_6 : am_all3 am_mo am_mt_6 [cd_180, cd_181, cd_182, cd_183, cd_184, cd_185, cd_186, cd_187, cd_188, cd_189, cd_190, cd_191, cd_192, cd_193, cd_194, cd_195, cd_196, cd_197, cd_198, cd_199, cd_200, cd_201, cd_202, cd_203, cd_204, cd_205, cd_206, cd_207, cd_208, cd_209] [4, 4, 4, 1, 4, 4, 4, 3, 3, 3, 5, 6, 4, 6, 5, 6, 5, 4, 7, 3, 2, 5, 3, 3, 3, 5, 2, 5, 5, 5] := (am_all3.cons mo_180 (am_all3.cons mo_181 (am_all3.cons mo_182 (am_all3.cons mo_183 (am_all3.cons mo_184 (am_all3.cons mo_185 (am_all3.cons mo_186 (am_all3.cons mo_187 (am_all3.cons mo_188 (am_all3.cons mo_189 (am_all3.cons mo_190 (am_all3.cons mo_191 (am_all3.cons mo_192 (am_all3.cons mo_193 (am_all3.cons mo_194 (am_all3.cons mo_195 (am_all3.cons mo_196 (am_all3.cons mo_197 (am_all3.cons mo_198 (am_all3.cons mo_199 (am_all3.cons mo_200 (am_all3.cons mo_201 (am_all3.cons mo_202 (am_all3.cons mo_203 (am_all3.cons mo_204 (am_all3.cons mo_205 (am_all3.cons mo_206 (am_all3.cons mo_207 (am_all3.cons mo_208 (am_all3.cons mo_209 am_all3.nil))))))))))))))))))))))))))))))
theorem mos_7 : am_all3 am_mo am_mt_7 [cd_210, cd_211, cd_212, cd_213, cd_214, cd_215, cd_216, cd_217, cd_218, cd_219, cd_220, cd_221, cd_222, cd_223, cd_224, cd_225, cd_226, cd_227, cd_228, cd_229, cd_230, cd_231, cd_232, cd_233, cd_234, cd_235, cd_236, cd_237, cd_238, cd_239] [6, 5, 6, 2, 3, 1, 4, 9, 11, 10, 1, 3, 7, 6, 2, 4, 2, 6, 4, 1, 2, 4, 2, 4, 10, 3, 3, 4, 4, 5] := (am_all3.cons mo_210 (am_all3.cons mo_211 (am_all3.cons mo_212 (am_all3.cons mo_213 (am_all3.cons mo_214 (am_all3.cons mo_215 (am_all3.cons mo_216 (am_all3.cons mo_217 (am_all3.cons mo_218 (am_all3.cons mo_219 (am_all3.cons mo_220 (am_all3.cons mo_221 (am_all3.cons mo_222 (am_all3.cons mo_223 (am_all3.cons mo_224 (am_all3.cons mo_225 (am_all3.cons mo_226 (am_all3.cons mo_227 (am_all3.cons mo_228 (am_all3.cons mo_229 (am_all3.cons mo_230 (am_all3.cons mo_231 (am_all3.cons mo_232 (am_all3.cons mo_233 (am_all3.cons mo_234 (am_all3.cons mo_235 (am_all3.cons mo_236 (am_all3.cons mo_237 (am_all3.cons mo_238 (am_all3.cons mo_239 am_all3.nil))))))))))))))))))))))))))))))
theorem mos_8 : am_all3 am_mo am_mt_8 [cd_240, cd_241, cd_242, cd_243, cd_244, cd_245, cd_246, cd_247, cd_248, cd_249, cd_250, cd_251, cd_252, cd_253, cd_254, cd_255, cd_256, cd_257, cd_258, cd_259, cd_260, cd_261, cd_262, cd_263, cd_264, cd_265, cd_266, cd_267, cd_268, cd_269] [3, 10, 9, 10, 8, 9, 5, 4, 5, 6, 2, 5, 1, 5, 4, 4, 4, 6, 5, 4, 4, 4, 4, 9, 7, 6, 2, 2, 7, 9] := (am_all3.cons mo_240 (am_all3.cons mo_241 (am_all3.cons mo_242 (am_all3.cons mo_243 (am_all3.cons mo_244 (am_all3.cons mo_245 (am_all3.cons mo_246 (am_all3.cons mo_247 (am_all3.cons mo_248 (am_all3.cons mo_249 (am_all3.cons mo_250 (am_all3.cons mo_251 (am_all3.cons mo_252 (am_all3.cons mo_253 (am_all3.cons mo_254 (am_all3.cons mo_255 (am_all3.cons mo_256 (am_all3.cons mo_257 (am_all3.cons mo_258 (am_all3.cons mo_259 (am_all3.cons mo_260 (am_all3.cons mo_261 (am_all3.cons mo_262 (am_all3.cons mo_263 (am_all3.cons mo_264 (am_all3.cons mo_265 (am_all3.cons mo_266 (am_all3.cons mo_267 (am_all3.cons mo_268 (am_all3.cons mo_269 am_all3.nil))))))))))))))))))))))))))))))
theorem mos_9 : am_all3 am_mo am_mt_9 [cd_270, cd_271, cd_272, cd_273, cd_274, cd_275, cd_276, cd_277, cd_278, cd_279, cd_280, cd_281, cd_282, cd_283, cd_284, cd_285, cd_286, cd_287, cd_288] [7, 4, 2, 5, 7, 10, 5, 8, 6, 2, 2, 4, 4, 4, 4, 2, 2, 2, 2] := (am_all3.cons mo_270 (am_all3.cons mo_271 (am_all3.cons mo_272 (am_all3.cons mo_273 (am_all3.cons mo_274 (am_all3.cons mo_275 (am_all3.cons mo_276 (am_all3.cons mo_277 (am_all3.cons mo_278 (am_all3.cons mo_279 (am_all3.cons mo_280 (am_all3.cons mo_281 (am_all3.cons mo_282 (am_all3.cons mo_283 (am_all3.cons mo_284 (am_all3.cons mo_285 (am_all3.cons mo_286 (am_all3.cons mo_287 (am_all3.cons mo_288 am_all3.nil)))))))))))))))))))
theorem am_all3.more {P : am_Me → am_P → Nat → Prop} : ∀ {l : List am_Me} {cs c2 : List am_P} {ns n2 : List Nat}, am_all3 P l cs ns → am_all3 P l (cs ++ c2) (ns ++ n2)
  | [], _, _, _, _, _ => trivial
  | x :: r, c :: cs, _, n :: ns, _, h => ⟨h.1, am_all3.more h.2⟩
  | x :: r, [], _, _, _, h => h.elim
  | x :: r, c :: cs, _, [], _, h => h.elim
theorem mos : am_all3 am_mo am_mt am_cds am_mls := (am_all3.app rfl rfl mos_0 (am_all3.app rfl rfl mos_1 (am_all3.app rfl rfl mos_2 (am_all3.app rfl rfl mos_3 (am_all3.app rfl rfl mos_4 (am_all3.app rfl rfl mos_5 (am_all3.app rfl rfl mos_6 (am_all3.app rfl rfl mos_7 (am_all3.app rfl rfl mos_8 (mos_9.more (c2 := [cd_289]) (n2 := [am_mls.getD 289 0])))))))))))
theorem am_mo_at {y : Nat} {x : am_Me} (h : am_mt[y]? = some x) : am_mo x (am_cds.getD y []) (am_mls.getD y 0) := mos.at h
theorem am_rt1 {r : Option FieldType} (h : am_rt r = 1) : r = some .int := by
  unfold am_rt at h; split at h <;> first | rfl | (exact absurd h (by decide))
theorem am_rt2 {r : Option FieldType} (h : am_rt r = 2) : r = some .boolean := by
  unfold am_rt at h; split at h <;> first | rfl | (exact absurd h (by decide))
theorem am_rt3 {r : Option FieldType} (h : am_rt r = 3) : r = some .byte := by
  unfold am_rt at h; split at h <;> first | rfl | (exact absurd h (by decide))
theorem am_rt4 {r : Option FieldType} (h : am_rt r = 4) : r = some .char := by
  unfold am_rt at h; split at h <;> first | rfl | (exact absurd h (by decide))
theorem am_rt5 {r : Option FieldType} (h : am_rt r = 5) : r = some .long := by
  unfold am_rt at h; split at h <;> first | rfl | (exact absurd h (by decide))
theorem am_rt6 {r : Option FieldType} (h : am_rt r = 6) : ∃ t, r = some t ∧ ((∃ n, t = .object n) ∨ ∃ u, t = .array u) := by
  unfold am_rt at h; split at h <;> first | exact ⟨_, rfl, Or.inl ⟨_, rfl⟩⟩ | exact ⟨_, rfl, Or.inr ⟨_, rfl⟩⟩ | (exact absurd h (by decide))
theorem am_rt0 {r : Option FieldType} (h : am_rt r = 0) : r = none := by
  unfold am_rt at h; split at h <;> first | rfl | (exact absurd h (by decide))
/-- every method does in the big machine what it does in the small one -/
theorem am_meet {G : am_Gt} {l : Launch} (hf : gf G = .null ∨ ∃ a, gf G = .ref a) : ∀ (y : Nat) (as : List am_V) (s : am_S) (rv : Option am_V) (s' : am_S), y < am_nm → am_F (gX G) y as s = some (rv, s') → am_Mt G l y as s rv s' := by
  intro y
  induction y using Nat.strongRecOn with
  | _ y ih =>
    intro as s rv s' hy h
    have hmo := am_F_mo (gX G) y as s rv s' hy h
    refine ⟨hmo.1, hmo.2, fun x hx => ?_⟩
    obtain ⟨hokd, hoka, hml0, hpl, hcls, hinit⟩ := am_mo_at hx
    rw [am_F_eq _ y hy, hml0, Bool.cond_eq_ite] at h
    split at h
    · rename_i hlen
      have hlen := Nat.le_of_ble_eq_true hlen
      unfold am_W at h
      obtain ⟨n, h⟩ := am_wh_to h
      have hE : ∀ (cN : Nat) (as : List am_V) (s : am_S) (rv : Option am_V) (s' : am_S), am_G (gX G) y cN as s = some (rv, s') → am_Mt G l cN as s rv s' := by
        intro c as s rv s' hc
        unfold am_G at hc
        rw [Bool.cond_eq_ite] at hc
        split at hc
        · rename_i hb
          have hb : c < y := Nat.le_of_ble_eq_true hb
          exact ih c hb as s rv s' (Nat.lt_trans hb hy) hc
        · cases hc
      refine Met.ofW (cc := x.1.2.1) (maxL := x.1.2.2.1) (ret := x.1.2.2.2) (ws' := am_Ts) hpl rfl ?_
      intro p e s0 m args below meth c s₁ B hml hv
      obtain ⟨rfl, hWd, hsz, hK, hOld⟩ := hv
      have hxx := B.exec
      have hb := B.bytes
      have hr := B.returns
      have hts := atoms_spec (ws := am_wsm x) B.pre
      have hlocks := B.notSynchronized
      have hown : s0.vm.findClass (am_on x.2.1) = some m.cls := by rw [← hcls]; exact findClass_of_methodNamed B.named
      have hin : Nat.beq x.2.2.2.1 2 = true → meth.name = "<init>" := fun hi => (name_of_methodNamed B.named B.method).1.trans (hinit hi)
      have X : am_Cx G p (headSpec (am_wsm x) (am_rm x (s'.2.1 - s.2.1) (s'.2.2 - s.2.2))).room s0 m (as.map (gV G)).toArray meth c x.1.2.1 x.1.2.2.1 x.2.1 (Nat.beq x.2.2.2.1 2) s' s.2.1 s.2.2 :=
        ⟨hxx, hb, hml, hown, fun w hw => hts w (List.mem_cons_of_mem _ hw), hK, hOld, rfl, rfl, hsz, hin, hf⟩
      have key : ∀ (n : Nat) (t : am_T), am_it (am_body (am_G (gX G) y) (gX G) y) n t = some (rv, s') →
          am_Go G p l e (headSpec (am_wsm x) (am_rm x (s'.2.1 - s.2.1) (s'.2.2 - s.2.2))).room s0 m (as.map (gV G)).toArray below meth c (MQ below (am_Qc G rv s') (as.map (gV G)).toArray s0 (s'.2.1 - s.2.1) (s'.2.2 - s.2.2) (gU G)) x.1.2.2.1 s' s.2.1 s.2.2 t := by
        intro n
        induction n with
        | zero => intro t h; simp [am_it] at h
        | succ n ihn =>
          intro t h
          rw [am_it] at h
          cases e0 : am_body (am_G (gX G) y) (gX G) y t with
          | none => rw [e0] at h; simp at h
          | some q =>
            rw [e0] at h
            unfold am_body at e0
            cases q with
            | inl t' =>
              have h' := ihn t' h
              exact am_ev_ok X hE rfl rfl rfl hokd hoka (fun _ _ _ _ _ _ _ _ e2 => by cases e2) 1000 t e0 (fun t2 e2 => by obtain rfl := Sum.inl.inj (Option.some.inj e2); exact h')
            | inr r =>
              obtain rfl : r = (rv, s') := Option.some.inj h
              refine am_ev_ok X hE rfl rfl rfl hokd hoka (fun i pc ls stk rv2 s2 hd hret e2 => ?_) 1000 t e0 (fun t2 e2 => by cases e2)
              have e3 := Sum.inr.inj (Option.some.inj e2)
              obtain rfl : rv2 = rv := congrArg Prod.fst e3
              obtain rfl : s2 = s' := congrArg Prod.snd e3
              refine ⟨Nat.le_refl _, Nat.le_refl _, fun hn hs H locs lz hW hS hl => ?_⟩
              rcases hret with ⟨rfl, v, rfl, rfl, hz⟩ | ⟨rfl, v, rfl, rfl, hz⟩ | ⟨rfl, v, rfl, rfl, hz⟩ | ⟨rfl, rfl, rfl, hz⟩
              · rcases hz with hz | ⟨hz, hv⟩ | ⟨hz, hv⟩ | ⟨hz, hv⟩
                · exact W.iret (v := v) hxx hb (hr.trans (am_rt1 hz)) (fun t ht hW2 => ⟨rfl, by rw [ht]; exact hW, hS.F ht⟩) hS.2.2 hd
                · exact W.zret (v := v) hxx hb (hr.trans (am_rt2 hz)) (by show Value.int (v &&& 1) = _; rw [hv]) (fun t ht hW2 => ⟨rfl, by rw [ht]; exact hW, hS.F ht⟩) hS.2.2 hd
                · exact W.zret (v := v) hxx hb (hr.trans (am_rt3 hz)) (by show Value.int v.toInt8.toInt32 = _; rw [hv]) (fun t ht hW2 => ⟨rfl, by rw [ht]; exact hW, hS.F ht⟩) hS.2.2 hd
                · exact W.zret (v := v) hxx hb (hr.trans (am_rt4 hz)) (by show Value.int v.toUInt32.toUInt16.toUInt32.toInt32 = _; rw [hv]) (fun t ht hW2 => ⟨rfl, by rw [ht]; exact hW, hS.F ht⟩) hS.2.2 hd
              · exact W.lret (v := v) hxx hb (hr.trans (am_rt5 hz)) (fun t ht hW2 => ⟨rfl, by rw [ht]; exact hW, hS.F ht⟩) hS.2.2 hd
              · obtain ⟨ty, hty, ho⟩ := am_rt6 hz
                exact W.aret (v := gV G (am_R v)) hxx hb (hr.trans hty) ho (gV_ref hf (Sum.inl v)) (fun t ht hW2 => ⟨rfl, by rw [ht]; exact hW, hS.F ht⟩) hS.2.2 hd
              · exact W.vret hxx hb (hr.trans (am_rt0 hz)) (fun t ht hW2 => ⟨rfl, by rw [ht]; exact hW, hS.F ht⟩) hS.2.2 hd
      have k := (key n _ h).2.2 (Nat.le_refl _) (Nat.le_refl _) s0.heap [] _ hWd va_S.rf (am_lv_entry _ _ (gO_cat hf) as hlen)
      dsimp only at k
      rw [Nat.sub_self, Nat.sub_self] at k
      rw [lg_entry_eq]
      exact k
    · cases h
