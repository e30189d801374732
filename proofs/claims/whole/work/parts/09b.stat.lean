/-! THE STATIC CELLS ONE BY ONE, AND THE LITERALS -/
theorem li_nat (n : Nat) : Int32.ofNat n = ii (n : Int) := rfl
theorem li_0 : (0 : Int32) = ii 0 := by decide
theorem li_1 : (1 : Int32) = ii 1 := by decide
theorem li_2 : (2 : Int32) = ii 2 := by decide
theorem li_3 : (3 : Int32) = ii 3 := by decide
theorem li_4 : (4 : Int32) = ii 4 := by decide
theorem li_5 : (5 : Int32) = ii 5 := by decide
theorem li_6 : (6 : Int32) = ii 6 := by decide
theorem li_7 : (7 : Int32) = ii 7 := by decide
theorem li_8 : (8 : Int32) = ii 8 := by decide
theorem li_9 : (9 : Int32) = ii 9 := by decide
theorem li_10 : (10 : Int32) = ii 10 := by decide
theorem li_11 : (11 : Int32) = ii 11 := by decide
theorem li_12 : (12 : Int32) = ii 12 := by decide
theorem li_13 : (13 : Int32) = ii 13 := by decide
theorem li_14 : (14 : Int32) = ii 14 := by decide
theorem li_15 : (15 : Int32) = ii 15 := by decide
theorem li_16 : (16 : Int32) = ii 16 := by decide
theorem li_17 : (17 : Int32) = ii 17 := by decide
theorem li_18 : (18 : Int32) = ii 18 := by decide
theorem li_19 : (19 : Int32) = ii 19 := by decide
theorem li_20 : (20 : Int32) = ii 20 := by decide
theorem li_21 : (21 : Int32) = ii 21 := by decide
theorem li_22 : (22 : Int32) = ii 22 := by decide
theorem li_23 : (23 : Int32) = ii 23 := by decide
theorem li_24 : (24 : Int32) = ii 24 := by decide
theorem li_25 : (25 : Int32) = ii 25 := by decide
theorem li_26 : (26 : Int32) = ii 26 := by decide
theorem li_27 : (27 : Int32) = ii 27 := by decide
theorem li_28 : (28 : Int32) = ii 28 := by decide
theorem li_29 : (29 : Int32) = ii 29 := by decide
theorem li_30 : (30 : Int32) = ii 30 := by decide
theorem li_31 : (31 : Int32) = ii 31 := by decide
theorem li_32 : (32 : Int32) = ii 32 := by decide
theorem li_33 : (33 : Int32) = ii 33 := by decide
theorem li_34 : (34 : Int32) = ii 34 := by decide
theorem li_35 : (35 : Int32) = ii 35 := by decide
theorem li_36 : (36 : Int32) = ii 36 := by decide
theorem li_37 : (37 : Int32) = ii 37 := by decide
theorem li_40 : (40 : Int32) = ii 40 := by decide
theorem li_43 : (43 : Int32) = ii 43 := by decide
theorem li_45 : (45 : Int32) = ii 45 := by decide
theorem li_48 : (48 : Int32) = ii 48 := by decide
theorem li_54 : (54 : Int32) = ii 54 := by decide
theorem li_57 : (57 : Int32) = ii 57 := by decide
theorem li_59 : (59 : Int32) = ii 59 := by decide
theorem li_60 : (60 : Int32) = ii 60 := by decide
theorem li_61 : (61 : Int32) = ii 61 := by decide
theorem li_62 : (62 : Int32) = ii 62 := by decide
theorem li_63 : (63 : Int32) = ii 63 := by decide
theorem li_64 : (64 : Int32) = ii 64 := by decide
theorem li_91 : (91 : Int32) = ii 91 := by decide
theorem li_93 : (93 : Int32) = ii 93 := by decide
theorem li_97 : (97 : Int32) = ii 97 := by decide
theorem li_99 : (99 : Int32) = ii 99 := by decide
theorem li_100 : (100 : Int32) = ii 100 := by decide
theorem li_108 : (108 : Int32) = ii 108 := by decide
theorem li_110 : (110 : Int32) = ii 110 := by decide
theorem li_121 : (121 : Int32) = ii 121 := by decide
theorem li_122 : (122 : Int32) = ii 122 := by decide
theorem li_127 : (127 : Int32) = ii 127 := by decide
theorem li_200 : (200 : Int32) = ii 200 := by decide
theorem li_201 : (201 : Int32) = ii 201 := by decide
theorem li_202 : (202 : Int32) = ii 202 := by decide
theorem li_203 : (203 : Int32) = ii 203 := by decide
theorem li_204 : (204 : Int32) = ii 204 := by decide
theorem li_255 : (255 : Int32) = ii 255 := by decide
theorem li_380 : (380 : Int32) = ii 380 := by decide
theorem li_400 : (400 : Int32) = ii 400 := by decide
theorem li_401 : (401 : Int32) = ii 401 := by decide
theorem li_444 : (444 : Int32) = ii 444 := by decide
theorem li_600 : (600 : Int32) = ii 600 := by decide
theorem li_800 : (800 : Int32) = ii 800 := by decide
theorem li_999 : (999 : Int32) = ii 999 := by decide
theorem li_1000 : (1000 : Int32) = ii 1000 := by decide
theorem li_1024 : (1024 : Int32) = ii 1024 := by decide
theorem li_1200 : (1200 : Int32) = ii 1200 := by decide
theorem li_2000 : (2000 : Int32) = ii 2000 := by decide
theorem li_2002 : (2002 : Int32) = ii 2002 := by decide
theorem li_2602 : (2602 : Int32) = ii 2602 := by decide
theorem li_3721 : (3721 : Int32) = ii 3721 := by decide
theorem li_6400 : (6400 : Int32) = ii 6400 := by decide
theorem li_9999 : (9999 : Int32) = ii 9999 := by decide
theorem li_10000 : (10000 : Int32) = ii 10000 := by decide
theorem li_10408 : (10408 : Int32) = ii 10408 := by decide
theorem li_65536 : (65536 : Int32) = ii 65536 := by decide
theorem li_100000 : (100000 : Int32) = ii 100000 := by decide
theorem li_1000000 : (1000000 : Int32) = ii 1000000 := by decide
theorem li_2000000 : (2000000 : Int32) = ii 2000000 := by decide
theorem li_10000000 : (10000000 : Int32) = ii 10000000 := by decide
theorem li_1000000000 : (1000000000 : Int32) = ii 1000000000 := by decide
theorem lj_0 : (0 : Int64) = jj 0 := by decide
theorem lj_1 : (1 : Int64) = jj 1 := by decide
theorem lj_2 : (2 : Int64) = jj 2 := by decide
theorem lj_3 : (3 : Int64) = jj 3 := by decide
theorem lj_4 : (4 : Int64) = jj 4 := by decide
theorem lj_5 : (5 : Int64) = jj 5 := by decide
theorem lj_7 : (7 : Int64) = jj 7 := by decide
theorem lj_9 : (9 : Int64) = jj 9 := by decide
theorem lj_19 : (19 : Int64) = jj 19 := by decide
theorem lj_20 : (20 : Int64) = jj 20 := by decide
theorem lj_63 : (63 : Int64) = jj 63 := by decide
theorem lj_200 : (200 : Int64) = jj 200 := by decide
theorem lj_999 : (999 : Int64) = jj 999 := by decide
theorem lj_1000 : (1000 : Int64) = jj 1000 := by decide
theorem lj_28001 : (28001 : Int64) = jj 28001 := by decide
theorem lj_28530 : (28530 : Int64) = jj 28530 := by decide
theorem lj_1000000 : (1000000 : Int64) = jj 1000000 := by decide
theorem lj_6385252 : (6385252 : Int64) = jj 6385252 := by decide
theorem lj_7237492 : (7237492 : Int64) = jj 7237492 := by decide
theorem lj_1667329381 : (1667329381 : Int64) = jj 1667329381 := by decide
theorem lj_1818848101 : (1818848101 : Int64) = jj 1818848101 := by decide
theorem lj_1852137842 : (1852137842 : Int64) = jj 1852137842 := by decide
theorem lj_418447847015 : (418447847015 : Int64) = jj 418447847015 := by decide
theorem lj_461414299502 : (461414299502 : Int64) = jj 461414299502 := by decide
theorem lj_495873779557 : (495873779557 : Int64) = jj 495873779557 := by decide
theorem lj_500135192948 : (500135192948 : Int64) = jj 500135192948 := by decide
theorem lj_122485595530085 : (122485595530085 : Int64) = jj 122485595530085 := by decide
theorem lj_131294808271214 : (131294808271214 : Int64) = jj 131294808271214 := by decide
theorem lj_1085102592571150095 : (1085102592571150095 : Int64) = jj 1085102592571150095 := by decide
theorem lj_3689348814741910323 : (3689348814741910323 : Int64) = jj 3689348814741910323 := by decide
theorem lj_6148914691236517205 : (6148914691236517205 : Int64) = jj 6148914691236517205 := by decide
theorem li_ : (0 : Int32) = ii 0 ∧ (1 : Int32) = ii 1 ∧ (2 : Int32) = ii 2 ∧ (3 : Int32) = ii 3 ∧ (4 : Int32) = ii 4 ∧ (5 : Int32) = ii 5 ∧ (6 : Int32) = ii 6 ∧ (7 : Int32) = ii 7 ∧ (8 : Int32) = ii 8 ∧ (9 : Int32) = ii 9 ∧ (10 : Int32) = ii 10 ∧ (11 : Int32) = ii 11 ∧ (12 : Int32) = ii 12 ∧ (13 : Int32) = ii 13 ∧ (14 : Int32) = ii 14 ∧ (15 : Int32) = ii 15 ∧ (16 : Int32) = ii 16 ∧ (17 : Int32) = ii 17 ∧ (18 : Int32) = ii 18 ∧ (19 : Int32) = ii 19 ∧ (20 : Int32) = ii 20 ∧ (21 : Int32) = ii 21 ∧ (22 : Int32) = ii 22 ∧ (23 : Int32) = ii 23 ∧ (24 : Int32) = ii 24 ∧ (25 : Int32) = ii 25 ∧ (26 : Int32) = ii 26 ∧ (27 : Int32) = ii 27 ∧ (28 : Int32) = ii 28 ∧ (29 : Int32) = ii 29 ∧ (30 : Int32) = ii 30 ∧ (31 : Int32) = ii 31 ∧ (32 : Int32) = ii 32 ∧ (33 : Int32) = ii 33 ∧ (34 : Int32) = ii 34 ∧ (35 : Int32) = ii 35 ∧ (36 : Int32) = ii 36 ∧ (37 : Int32) = ii 37 ∧ (40 : Int32) = ii 40 ∧ (43 : Int32) = ii 43 ∧ (45 : Int32) = ii 45 ∧ (48 : Int32) = ii 48 ∧ (54 : Int32) = ii 54 ∧ (57 : Int32) = ii 57 ∧ (59 : Int32) = ii 59 ∧ (60 : Int32) = ii 60 ∧ (61 : Int32) = ii 61 ∧ (62 : Int32) = ii 62 ∧ (63 : Int32) = ii 63 ∧ (64 : Int32) = ii 64 ∧ (91 : Int32) = ii 91 ∧ (93 : Int32) = ii 93 ∧ (97 : Int32) = ii 97 ∧ (99 : Int32) = ii 99 ∧ (100 : Int32) = ii 100 ∧ (108 : Int32) = ii 108 ∧ (110 : Int32) = ii 110 ∧ (121 : Int32) = ii 121 ∧ (122 : Int32) = ii 122 ∧ (127 : Int32) = ii 127 ∧ (200 : Int32) = ii 200 ∧ (201 : Int32) = ii 201 ∧ (202 : Int32) = ii 202 ∧ (203 : Int32) = ii 203 ∧ (204 : Int32) = ii 204 ∧ (255 : Int32) = ii 255 ∧ (380 : Int32) = ii 380 ∧ (400 : Int32) = ii 400 ∧ (401 : Int32) = ii 401 ∧ (444 : Int32) = ii 444 ∧ (600 : Int32) = ii 600 ∧ (800 : Int32) = ii 800 ∧ (999 : Int32) = ii 999 ∧ (1000 : Int32) = ii 1000 ∧ (1024 : Int32) = ii 1024 ∧ (1200 : Int32) = ii 1200 ∧ (2000 : Int32) = ii 2000 ∧ (2002 : Int32) = ii 2002 ∧ (2602 : Int32) = ii 2602 ∧ (3721 : Int32) = ii 3721 ∧ (6400 : Int32) = ii 6400 ∧ (9999 : Int32) = ii 9999 ∧ (10000 : Int32) = ii 10000 ∧ (10408 : Int32) = ii 10408 ∧ (65536 : Int32) = ii 65536 ∧ (100000 : Int32) = ii 100000 ∧ (1000000 : Int32) = ii 1000000 ∧ (2000000 : Int32) = ii 2000000 ∧ (10000000 : Int32) = ii 10000000 ∧ (1000000000 : Int32) = ii 1000000000 := ⟨li_0, li_1, li_2, li_3, li_4, li_5, li_6, li_7, li_8, li_9, li_10, li_11, li_12, li_13, li_14, li_15, li_16, li_17, li_18, li_19, li_20, li_21, li_22, li_23, li_24, li_25, li_26, li_27, li_28, li_29, li_30, li_31, li_32, li_33, li_34, li_35, li_36, li_37, li_40, li_43, li_45, li_48, li_54, li_57, li_59, li_60, li_61, li_62, li_63, li_64, li_91, li_93, li_97, li_99, li_100, li_108, li_110, li_121, li_122, li_127, li_200, li_201, li_202, li_203, li_204, li_255, li_380, li_400, li_401, li_444, li_600, li_800, li_999, li_1000, li_1024, li_1200, li_2000, li_2002, li_2602, li_3721, li_6400, li_9999, li_10000, li_10408, li_65536, li_100000, li_1000000, li_2000000, li_10000000, li_1000000000⟩
theorem lj_ : (0 : Int64) = jj 0 ∧ (1 : Int64) = jj 1 ∧ (2 : Int64) = jj 2 ∧ (3 : Int64) = jj 3 ∧ (4 : Int64) = jj 4 ∧ (5 : Int64) = jj 5 ∧ (7 : Int64) = jj 7 ∧ (9 : Int64) = jj 9 ∧ (19 : Int64) = jj 19 ∧ (20 : Int64) = jj 20 ∧ (63 : Int64) = jj 63 ∧ (200 : Int64) = jj 200 ∧ (999 : Int64) = jj 999 ∧ (1000 : Int64) = jj 1000 ∧ (28001 : Int64) = jj 28001 ∧ (28530 : Int64) = jj 28530 ∧ (1000000 : Int64) = jj 1000000 ∧ (6385252 : Int64) = jj 6385252 ∧ (7237492 : Int64) = jj 7237492 ∧ (1667329381 : Int64) = jj 1667329381 ∧ (1818848101 : Int64) = jj 1818848101 ∧ (1852137842 : Int64) = jj 1852137842 ∧ (418447847015 : Int64) = jj 418447847015 ∧ (461414299502 : Int64) = jj 461414299502 ∧ (495873779557 : Int64) = jj 495873779557 ∧ (500135192948 : Int64) = jj 500135192948 ∧ (122485595530085 : Int64) = jj 122485595530085 ∧ (131294808271214 : Int64) = jj 131294808271214 ∧ (1085102592571150095 : Int64) = jj 1085102592571150095 ∧ (3689348814741910323 : Int64) = jj 3689348814741910323 ∧ (6148914691236517205 : Int64) = jj 6148914691236517205 := ⟨lj_0, lj_1, lj_2, lj_3, lj_4, lj_5, lj_7, lj_9, lj_19, lj_20, lj_63, lj_200, lj_999, lj_1000, lj_28001, lj_28530, lj_1000000, lj_6385252, lj_7237492, lj_1667329381, lj_1818848101, lj_1852137842, lj_418447847015, lj_461414299502, lj_495873779557, lj_500135192948, lj_122485595530085, lj_131294808271214, lj_1085102592571150095, lj_3689348814741910323, lj_6148914691236517205⟩
theorem is_0 (w : wo) : am_is (wst w) 0 11 = true := is_of rfl
theorem gR_0_0 (w : wo) : am_gR (wst w) 0 11 0 = some (some 1) := gR_of rfl rfl
theorem gR_0_1 (w : wo) : am_gR (wst w) 0 11 1 = some (some 7) := gR_of rfl rfl
theorem gR_0_2 (w : wo) : am_gR (wst w) 0 11 2 = some (some 11) := gR_of rfl rfl
theorem gR_0_3 (w : wo) : am_gR (wst w) 0 11 3 = some (some 12) := gR_of rfl rfl
theorem gR_0_4 (w : wo) : am_gR (wst w) 0 11 4 = some (some 13) := gR_of rfl rfl
theorem gR_0_5 (w : wo) : am_gR (wst w) 0 11 5 = some (some 20) := gR_of rfl rfl
theorem gR_0_6 (w : wo) : am_gR (wst w) 0 11 6 = some (some 21) := gR_of rfl rfl
theorem gI_0_7 (w : wo) : am_gI (wst w) 0 11 7 = some (ii (wI w 0 7)) := gI_of rfl rfl
theorem pI_0_7 (w : wo) (x : Int) : am_pf (wst w) 0 11 7 (am_I (ii x)) = some (wst (uI w 0 7 x)) := pI_of rfl rfl
theorem gI_0_8 (w : wo) : am_gI (wst w) 0 11 8 = some (ii (wI w 0 8)) := gI_of rfl rfl
theorem pI_0_8 (w : wo) (x : Int) : am_pf (wst w) 0 11 8 (am_I (ii x)) = some (wst (uI w 0 8 x)) := pI_of rfl rfl
theorem gR_0_9 (w : wo) : am_gR (wst w) 0 11 9 = some (some 22) := gR_of rfl rfl
theorem gR_0_10 (w : wo) : am_gR (wst w) 0 11 10 = some (some 28) := gR_of rfl rfl
theorem gR_0_11 (w : wo) : am_gR (wst w) 0 11 11 = some (some 29) := gR_of rfl rfl
theorem gR_0_12 (w : wo) : am_gR (wst w) 0 11 12 = some (some 39) := gR_of rfl rfl
theorem gR_0_13 (w : wo) : am_gR (wst w) 0 11 13 = some (some 42) := gR_of rfl rfl
theorem gR_0_14 (w : wo) : am_gR (wst w) 0 11 14 = some (some 45) := gR_of rfl rfl
theorem gR_0_15 (w : wo) : am_gR (wst w) 0 11 15 = some (some 46) := gR_of rfl rfl
theorem is_1 (w : wo) : am_is (wst w) 1 1 = true := is_of rfl
theorem gR_1_0 (w : wo) : am_gR (wst w) 1 1 0 = some (some 2) := gR_of rfl rfl
theorem gR_1_1 (w : wo) : am_gR (wst w) 1 1 1 = some (some 3) := gR_of rfl rfl
theorem gR_1_2 (w : wo) : am_gR (wst w) 1 1 2 = some (some 4) := gR_of rfl rfl
theorem gR_1_3 (w : wo) : am_gR (wst w) 1 1 3 = some (some 5) := gR_of rfl rfl
theorem gR_1_4 (w : wo) : am_gR (wst w) 1 1 4 = some (some 6) := gR_of rfl rfl
theorem gI_1_5 (w : wo) : am_gI (wst w) 1 1 5 = some (ii (wI w 1 5)) := gI_of rfl rfl
theorem pI_1_5 (w : wo) (x : Int) : am_pf (wst w) 1 1 5 (am_I (ii x)) = some (wst (uI w 1 5 x)) := pI_of rfl rfl
theorem is_7 (w : wo) : am_is (wst w) 7 4 = true := is_of rfl
theorem gR_7_0 (w : wo) : am_gR (wst w) 7 4 0 = some (some 8) := gR_of rfl rfl
theorem gR_7_1 (w : wo) : am_gR (wst w) 7 4 1 = some (some 9) := gR_of rfl rfl
theorem gR_7_2 (w : wo) : am_gR (wst w) 7 4 2 = some (some 10) := gR_of rfl rfl
theorem gI_7_3 (w : wo) : am_gI (wst w) 7 4 3 = some (ii (wI w 7 3)) := gI_of rfl rfl
theorem pI_7_3 (w : wo) (x : Int) : am_pf (wst w) 7 4 3 (am_I (ii x)) = some (wst (uI w 7 3 x)) := pI_of rfl rfl
theorem is_13 (w : wo) : am_is (wst w) 13 6 = true := is_of rfl
theorem gR_13_0 (w : wo) : am_gR (wst w) 13 6 0 = some (some 14) := gR_of rfl rfl
theorem gI_13_1 (w : wo) : am_gI (wst w) 13 6 1 = some (ii (wI w 13 1)) := gI_of rfl rfl
theorem pI_13_1 (w : wo) (x : Int) : am_pf (wst w) 13 6 1 (am_I (ii x)) = some (wst (uI w 13 1 x)) := pI_of rfl rfl
theorem gR_13_2 (w : wo) : am_gR (wst w) 13 6 2 = some (some 15) := gR_of rfl rfl
theorem gR_13_3 (w : wo) : am_gR (wst w) 13 6 3 = some (some 16) := gR_of rfl rfl
theorem gR_13_4 (w : wo) : am_gR (wst w) 13 6 4 = some (some 17) := gR_of rfl rfl
theorem gI_13_5 (w : wo) : am_gI (wst w) 13 6 5 = some (ii (wI w 13 5)) := gI_of rfl rfl
theorem pI_13_5 (w : wo) (x : Int) : am_pf (wst w) 13 6 5 (am_I (ii x)) = some (wst (uI w 13 5 x)) := pI_of rfl rfl
theorem gI_13_6 (w : wo) : am_gI (wst w) 13 6 6 = some (ii (wI w 13 6)) := gI_of rfl rfl
theorem pI_13_6 (w : wo) (x : Int) : am_pf (wst w) 13 6 6 (am_I (ii x)) = some (wst (uI w 13 6 x)) := pI_of rfl rfl
theorem gR_13_7 (w : wo) : am_gR (wst w) 13 6 7 = some (some 18) := gR_of rfl rfl
theorem gI_13_8 (w : wo) : am_gI (wst w) 13 6 8 = some (ii (wI w 13 8)) := gI_of rfl rfl
theorem pI_13_8 (w : wo) (x : Int) : am_pf (wst w) 13 6 8 (am_I (ii x)) = some (wst (uI w 13 8 x)) := pI_of rfl rfl
theorem gI_13_9 (w : wo) : am_gI (wst w) 13 6 9 = some (ii (wI w 13 9)) := gI_of rfl rfl
theorem pI_13_9 (w : wo) (x : Int) : am_pf (wst w) 13 6 9 (am_I (ii x)) = some (wst (uI w 13 9 x)) := pI_of rfl rfl
theorem gI_13_10 (w : wo) : am_gI (wst w) 13 6 10 = some (ii (wI w 13 10)) := gI_of rfl rfl
theorem pI_13_10 (w : wo) (x : Int) : am_pf (wst w) 13 6 10 (am_I (ii x)) = some (wst (uI w 13 10 x)) := pI_of rfl rfl
theorem gR_13_11 (w : wo) : am_gR (wst w) 13 6 11 = some (some 19) := gR_of rfl rfl
theorem gI_13_12 (w : wo) : am_gI (wst w) 13 6 12 = some (ii (wI w 13 12)) := gI_of rfl rfl
theorem pI_13_12 (w : wo) (x : Int) : am_pf (wst w) 13 6 12 (am_I (ii x)) = some (wst (uI w 13 12 x)) := pI_of rfl rfl
theorem gI_13_13 (w : wo) : am_gI (wst w) 13 6 13 = some (ii (wI w 13 13)) := gI_of rfl rfl
theorem pI_13_13 (w : wo) (x : Int) : am_pf (wst w) 13 6 13 (am_I (ii x)) = some (wst (uI w 13 13 x)) := pI_of rfl rfl
theorem is_22 (w : wo) : am_is (wst w) 22 8 = true := is_of rfl
theorem gR_22_0 (w : wo) : am_gR (wst w) 22 8 0 = some (some 1) := gR_of rfl rfl
theorem gR_22_1 (w : wo) : am_gR (wst w) 22 8 1 = some (some 23) := gR_of rfl rfl
theorem gR_22_2 (w : wo) : am_gR (wst w) 22 8 2 = some (some 24) := gR_of rfl rfl
theorem gI_22_3 (w : wo) : am_gI (wst w) 22 8 3 = some (ii (wI w 22 3)) := gI_of rfl rfl
theorem pI_22_3 (w : wo) (x : Int) : am_pf (wst w) 22 8 3 (am_I (ii x)) = some (wst (uI w 22 3 x)) := pI_of rfl rfl
theorem gI_22_4 (w : wo) : am_gI (wst w) 22 8 4 = some (ii (wI w 22 4)) := gI_of rfl rfl
theorem pI_22_4 (w : wo) (x : Int) : am_pf (wst w) 22 8 4 (am_I (ii x)) = some (wst (uI w 22 4 x)) := pI_of rfl rfl
theorem gR_22_5 (w : wo) : am_gR (wst w) 22 8 5 = some (some 25) := gR_of rfl rfl
theorem gR_22_6 (w : wo) : am_gR (wst w) 22 8 6 = some (some 26) := gR_of rfl rfl
theorem gR_22_7 (w : wo) : am_gR (wst w) 22 8 7 = some (some 27) := gR_of rfl rfl
theorem gI_22_8 (w : wo) : am_gI (wst w) 22 8 8 = some (ii (wI w 22 8)) := gI_of rfl rfl
theorem pI_22_8 (w : wo) (x : Int) : am_pf (wst w) 22 8 8 (am_I (ii x)) = some (wst (uI w 22 8 x)) := pI_of rfl rfl
theorem is_28 (w : wo) : am_is (wst w) 28 3 = true := is_of rfl
theorem gL_28_0 (w : wo) : am_gL (wst w) 28 3 0 = some (jj (wJ w 28 0)) := gL_of rfl rfl
theorem pL_28_0 (w : wo) (x : Int) : am_pf (wst w) 28 3 0 (am_L (jj x)) = some (wst (uJ w 28 0 x)) := pL_of rfl rfl
theorem gL_28_1 (w : wo) : am_gL (wst w) 28 3 1 = some (jj (wJ w 28 1)) := gL_of rfl rfl
theorem pL_28_1 (w : wo) (x : Int) : am_pf (wst w) 28 3 1 (am_L (jj x)) = some (wst (uJ w 28 1 x)) := pL_of rfl rfl
theorem is_29 (w : wo) : am_is (wst w) 29 5 = true := is_of rfl
theorem gR_29_0 (w : wo) : am_gR (wst w) 29 5 0 = some (some 30) := gR_of rfl rfl
theorem gR_29_1 (w : wo) : am_gR (wst w) 29 5 1 = some (some 31) := gR_of rfl rfl
theorem gR_29_2 (w : wo) : am_gR (wst w) 29 5 2 = some (some 32) := gR_of rfl rfl
theorem gR_29_3 (w : wo) : am_gR (wst w) 29 5 3 = some (some 33) := gR_of rfl rfl
theorem gR_29_4 (w : wo) : am_gR (wst w) 29 5 4 = some (some 34) := gR_of rfl rfl
theorem gR_29_5 (w : wo) : am_gR (wst w) 29 5 5 = some (some 35) := gR_of rfl rfl
theorem gR_29_6 (w : wo) : am_gR (wst w) 29 5 6 = some (some 36) := gR_of rfl rfl
theorem gR_29_7 (w : wo) : am_gR (wst w) 29 5 7 = some (some 37) := gR_of rfl rfl
theorem gR_29_8 (w : wo) : am_gR (wst w) 29 5 8 = some (some 38) := gR_of rfl rfl
theorem gI_29_9 (w : wo) : am_gI (wst w) 29 5 9 = some (ii (wI w 29 9)) := gI_of rfl rfl
theorem pI_29_9 (w : wo) (x : Int) : am_pf (wst w) 29 5 9 (am_I (ii x)) = some (wst (uI w 29 9 x)) := pI_of rfl rfl
theorem gI_29_10 (w : wo) : am_gI (wst w) 29 5 10 = some (ii (wI w 29 10)) := gI_of rfl rfl
theorem pI_29_10 (w : wo) (x : Int) : am_pf (wst w) 29 5 10 (am_I (ii x)) = some (wst (uI w 29 10 x)) := pI_of rfl rfl
theorem is_39 (w : wo) : am_is (wst w) 39 0 = true := is_of rfl
theorem gR_39_0 (w : wo) : am_gR (wst w) 39 0 0 = some (some 40) := gR_of rfl rfl
theorem gR_39_1 (w : wo) : am_gR (wst w) 39 0 1 = some (some 41) := gR_of rfl rfl
theorem is_42 (w : wo) : am_is (wst w) 42 7 = true := is_of rfl
theorem gR_42_0 (w : wo) : am_gR (wst w) 42 7 0 = some (some 43) := gR_of rfl rfl
theorem gR_42_1 (w : wo) : am_gR (wst w) 42 7 1 = some (some 44) := gR_of rfl rfl
theorem gI_42_2 (w : wo) : am_gI (wst w) 42 7 2 = some (ii (wI w 42 2)) := gI_of rfl rfl
theorem pI_42_2 (w : wo) (x : Int) : am_pf (wst w) 42 7 2 (am_I (ii x)) = some (wst (uI w 42 2 x)) := pI_of rfl rfl
theorem gI_42_3 (w : wo) : am_gI (wst w) 42 7 3 = some (ii (wI w 42 3)) := gI_of rfl rfl
theorem pI_42_3 (w : wo) (x : Int) : am_pf (wst w) 42 7 3 (am_I (ii x)) = some (wst (uI w 42 3 x)) := pI_of rfl rfl
theorem gI_42_4 (w : wo) : am_gI (wst w) 42 7 4 = some (ii (wI w 42 4)) := gI_of rfl rfl
theorem pI_42_4 (w : wo) (x : Int) : am_pf (wst w) 42 7 4 (am_I (ii x)) = some (wst (uI w 42 4 x)) := pI_of rfl rfl
theorem gI_42_5 (w : wo) : am_gI (wst w) 42 7 5 = some (ii (wI w 42 5)) := gI_of rfl rfl
theorem pI_42_5 (w : wo) (x : Int) : am_pf (wst w) 42 7 5 (am_I (ii x)) = some (wst (uI w 42 5 x)) := pI_of rfl rfl
theorem is_45 (w : wo) : am_is (wst w) 45 2 = true := is_of rfl
theorem gI_45_0 (w : wo) : am_gI (wst w) 45 2 0 = some (ii (wI w 45 0)) := gI_of rfl rfl
theorem pI_45_0 (w : wo) (x : Int) : am_pf (wst w) 45 2 0 (am_I (ii x)) = some (wst (uI w 45 0 x)) := pI_of rfl rfl
theorem gI_45_1 (w : wo) : am_gI (wst w) 45 2 1 = some (ii (wI w 45 1)) := gI_of rfl rfl
theorem pI_45_1 (w : wo) (x : Int) : am_pf (wst w) 45 2 1 (am_I (ii x)) = some (wst (uI w 45 1 x)) := pI_of rfl rfl
theorem gI_45_2 (w : wo) : am_gI (wst w) 45 2 2 = some (ii (wI w 45 2)) := gI_of rfl rfl
theorem pI_45_2 (w : wo) (x : Int) : am_pf (wst w) 45 2 2 (am_I (ii x)) = some (wst (uI w 45 2 x)) := pI_of rfl rfl
theorem gI_45_3 (w : wo) : am_gI (wst w) 45 2 3 = some (ii (wI w 45 3)) := gI_of rfl rfl
theorem pI_45_3 (w : wo) (x : Int) : am_pf (wst w) 45 2 3 (am_I (ii x)) = some (wst (uI w 45 3 x)) := pI_of rfl rfl
theorem gI_45_4 (w : wo) : am_gI (wst w) 45 2 4 = some (ii (wI w 45 4)) := gI_of rfl rfl
theorem pI_45_4 (w : wo) (x : Int) : am_pf (wst w) 45 2 4 (am_I (ii x)) = some (wst (uI w 45 4 x)) := pI_of rfl rfl
theorem is_47 (w : wo) : am_is (wst w) 47 12 = true := is_of rfl
theorem gI_47_0 (w : wo) : am_gI (wst w) 47 12 0 = some (ii (wI w 47 0)) := gI_of rfl rfl
theorem pI_47_0 (w : wo) (x : Int) : am_pf (wst w) 47 12 0 (am_I (ii x)) = some (wst (uI w 47 0 x)) := pI_of rfl rfl
theorem gR_47_1 (w : wo) : am_gR (wst w) 47 12 1 = some (some 48) := gR_of rfl rfl
theorem gI_47_2 (w : wo) : am_gI (wst w) 47 12 2 = some (ii (wI w 47 2)) := gI_of rfl rfl
theorem pI_47_2 (w : wo) (x : Int) : am_pf (wst w) 47 12 2 (am_I (ii x)) = some (wst (uI w 47 2 x)) := pI_of rfl rfl
theorem gR_47_3 (w : wo) : am_gR (wst w) 47 12 3 = some (some 49) := gR_of rfl rfl
theorem gR_47_4 (w : wo) : am_gR (wst w) 47 12 4 = some (some 50) := gR_of rfl rfl
theorem gI_47_5 (w : wo) : am_gI (wst w) 47 12 5 = some (ii (wI w 47 5)) := gI_of rfl rfl
theorem pI_47_5 (w : wo) (x : Int) : am_pf (wst w) 47 12 5 (am_I (ii x)) = some (wst (uI w 47 5 x)) := pI_of rfl rfl
theorem gR_47_6 (w : wo) : am_gR (wst w) 47 12 6 = some (some 51) := gR_of rfl rfl
theorem gR_47_7 (w : wo) : am_gR (wst w) 47 12 7 = some (some 52) := gR_of rfl rfl
theorem gI_47_8 (w : wo) : am_gI (wst w) 47 12 8 = some (ii (wI w 47 8)) := gI_of rfl rfl
theorem pI_47_8 (w : wo) (x : Int) : am_pf (wst w) 47 12 8 (am_I (ii x)) = some (wst (uI w 47 8 x)) := pI_of rfl rfl
theorem gI_47_9 (w : wo) : am_gI (wst w) 47 12 9 = some (ii (wI w 47 9)) := gI_of rfl rfl
theorem pI_47_9 (w : wo) (x : Int) : am_pf (wst w) 47 12 9 (am_I (ii x)) = some (wst (uI w 47 9 x)) := pI_of rfl rfl
theorem gR_47_10 (w : wo) : am_gR (wst w) 47 12 10 = some (some 53) := gR_of rfl rfl
theorem gR_47_11 (w : wo) : am_gR (wst w) 47 12 11 = some (some 54) := gR_of rfl rfl
theorem gR_47_12 (w : wo) : am_gR (wst w) 47 12 12 = some (some 55) := gR_of rfl rfl
theorem gR_47_13 (w : wo) : am_gR (wst w) 47 12 13 = some (some 56) := gR_of rfl rfl
theorem gI_47_14 (w : wo) : am_gI (wst w) 47 12 14 = some (ii (wI w 47 14)) := gI_of rfl rfl
theorem pI_47_14 (w : wo) (x : Int) : am_pf (wst w) 47 12 14 (am_I (ii x)) = some (wst (uI w 47 14 x)) := pI_of rfl rfl
theorem gI_47_15 (w : wo) : am_gI (wst w) 47 12 15 = some (ii (wI w 47 15)) := gI_of rfl rfl
theorem pI_47_15 (w : wo) (x : Int) : am_pf (wst w) 47 12 15 (am_I (ii x)) = some (wst (uI w 47 15 x)) := pI_of rfl rfl
theorem gI_47_16 (w : wo) : am_gI (wst w) 47 12 16 = some (ii (wI w 47 16)) := gI_of rfl rfl
theorem pI_47_16 (w : wo) (x : Int) : am_pf (wst w) 47 12 16 (am_I (ii x)) = some (wst (uI w 47 16 x)) := pI_of rfl rfl
theorem gI_47_17 (w : wo) : am_gI (wst w) 47 12 17 = some (ii (wI w 47 17)) := gI_of rfl rfl
theorem pI_47_17 (w : wo) (x : Int) : am_pf (wst w) 47 12 17 (am_I (ii x)) = some (wst (uI w 47 17 x)) := pI_of rfl rfl
theorem gI_47_18 (w : wo) : am_gI (wst w) 47 12 18 = some (ii (wI w 47 18)) := gI_of rfl rfl
theorem pI_47_18 (w : wo) (x : Int) : am_pf (wst w) 47 12 18 (am_I (ii x)) = some (wst (uI w 47 18 x)) := pI_of rfl rfl
theorem gI_47_19 (w : wo) : am_gI (wst w) 47 12 19 = some (ii (wI w 47 19)) := gI_of rfl rfl
theorem pI_47_19 (w : wo) (x : Int) : am_pf (wst w) 47 12 19 (am_I (ii x)) = some (wst (uI w 47 19 x)) := pI_of rfl rfl
theorem gR_47_20 (w : wo) : am_gR (wst w) 47 12 20 = some (some 57) := gR_of rfl rfl
theorem gI_47_21 (w : wo) : am_gI (wst w) 47 12 21 = some (ii (wI w 47 21)) := gI_of rfl rfl
theorem pI_47_21 (w : wo) (x : Int) : am_pf (wst w) 47 12 21 (am_I (ii x)) = some (wst (uI w 47 21 x)) := pI_of rfl rfl
theorem gR_47_22 (w : wo) : am_gR (wst w) 47 12 22 = some (some 58) := gR_of rfl rfl
theorem gI_47_23 (w : wo) : am_gI (wst w) 47 12 23 = some (ii (wI w 47 23)) := gI_of rfl rfl
theorem pI_47_23 (w : wo) (x : Int) : am_pf (wst w) 47 12 23 (am_I (ii x)) = some (wst (uI w 47 23 x)) := pI_of rfl rfl
theorem gI_47_24 (w : wo) : am_gI (wst w) 47 12 24 = some (ii (wI w 47 24)) := gI_of rfl rfl
theorem pI_47_24 (w : wo) (x : Int) : am_pf (wst w) 47 12 24 (am_I (ii x)) = some (wst (uI w 47 24 x)) := pI_of rfl rfl
theorem gI_47_25 (w : wo) : am_gI (wst w) 47 12 25 = some (ii (wI w 47 25)) := gI_of rfl rfl
theorem pI_47_25 (w : wo) (x : Int) : am_pf (wst w) 47 12 25 (am_I (ii x)) = some (wst (uI w 47 25 x)) := pI_of rfl rfl
theorem gI_47_26 (w : wo) : am_gI (wst w) 47 12 26 = some (ii (wI w 47 26)) := gI_of rfl rfl
theorem pI_47_26 (w : wo) (x : Int) : am_pf (wst w) 47 12 26 (am_I (ii x)) = some (wst (uI w 47 26 x)) := pI_of rfl rfl
theorem gR_47_27 (w : wo) : am_gR (wst w) 47 12 27 = some (some 59) := gR_of rfl rfl
theorem gR_47_28 (w : wo) : am_gR (wst w) 47 12 28 = some (some 60) := gR_of rfl rfl
theorem gR_47_29 (w : wo) : am_gR (wst w) 47 12 29 = some (some 61) := gR_of rfl rfl
theorem gL_47_30 (w : wo) : am_gL (wst w) 47 12 30 = some (jj (wJ w 47 30)) := gL_of rfl rfl
theorem pL_47_30 (w : wo) (x : Int) : am_pf (wst w) 47 12 30 (am_L (jj x)) = some (wst (uJ w 47 30 x)) := pL_of rfl rfl
theorem gL_47_31 (w : wo) : am_gL (wst w) 47 12 31 = some (jj (wJ w 47 31)) := gL_of rfl rfl
theorem pL_47_31 (w : wo) (x : Int) : am_pf (wst w) 47 12 31 (am_L (jj x)) = some (wst (uJ w 47 31 x)) := pL_of rfl rfl
theorem gR_47_32 (w : wo) : am_gR (wst w) 47 12 32 = some (some 62) := gR_of rfl rfl
theorem gI_47_33 (w : wo) : am_gI (wst w) 47 12 33 = some (ii (wI w 47 33)) := gI_of rfl rfl
theorem pI_47_33 (w : wo) (x : Int) : am_pf (wst w) 47 12 33 (am_I (ii x)) = some (wst (uI w 47 33 x)) := pI_of rfl rfl
theorem gR_47_34 (w : wo) : am_gR (wst w) 47 12 34 = some (some 63) := gR_of rfl rfl
theorem gR_47_35 (w : wo) : am_gR (wst w) 47 12 35 = some (some 64) := gR_of rfl rfl
theorem gI_47_36 (w : wo) : am_gI (wst w) 47 12 36 = some (ii (wI w 47 36)) := gI_of rfl rfl
theorem pI_47_36 (w : wo) (x : Int) : am_pf (wst w) 47 12 36 (am_I (ii x)) = some (wst (uI w 47 36 x)) := pI_of rfl rfl
theorem gR_47_37 (w : wo) : am_gR (wst w) 47 12 37 = some (some 65) := gR_of rfl rfl
theorem gR_47_38 (w : wo) : am_gR (wst w) 47 12 38 = some (some 66) := gR_of rfl rfl
theorem gI_47_39 (w : wo) : am_gI (wst w) 47 12 39 = some (ii (wI w 47 39)) := gI_of rfl rfl
theorem pI_47_39 (w : wo) (x : Int) : am_pf (wst w) 47 12 39 (am_I (ii x)) = some (wst (uI w 47 39 x)) := pI_of rfl rfl
theorem gI_47_40 (w : wo) : am_gI (wst w) 47 12 40 = some (ii (wI w 47 40)) := gI_of rfl rfl
theorem pI_47_40 (w : wo) (x : Int) : am_pf (wst w) 47 12 40 (am_I (ii x)) = some (wst (uI w 47 40 x)) := pI_of rfl rfl
theorem gR_47_41 (w : wo) : am_gR (wst w) 47 12 41 = some (some 67) := gR_of rfl rfl
theorem gI_47_42 (w : wo) : am_gI (wst w) 47 12 42 = some (ii (wI w 47 42)) := gI_of rfl rfl
theorem pI_47_42 (w : wo) (x : Int) : am_pf (wst w) 47 12 42 (am_I (ii x)) = some (wst (uI w 47 42 x)) := pI_of rfl rfl
theorem gI_47_43 (w : wo) : am_gI (wst w) 47 12 43 = some (ii (wI w 47 43)) := gI_of rfl rfl
theorem pI_47_43 (w : wo) (x : Int) : am_pf (wst w) 47 12 43 (am_I (ii x)) = some (wst (uI w 47 43 x)) := pI_of rfl rfl
theorem gI_47_44 (w : wo) : am_gI (wst w) 47 12 44 = some (ii (wI w 47 44)) := gI_of rfl rfl
theorem pI_47_44 (w : wo) (x : Int) : am_pf (wst w) 47 12 44 (am_I (ii x)) = some (wst (uI w 47 44 x)) := pI_of rfl rfl
theorem gR_47_45 (w : wo) : am_gR (wst w) 47 12 45 = some (some 68) := gR_of rfl rfl
theorem gR_47_46 (w : wo) : am_gR (wst w) 47 12 46 = some (some 69) := gR_of rfl rfl
theorem gR_47_47 (w : wo) : am_gR (wst w) 47 12 47 = some (some 70) := gR_of rfl rfl
theorem gR_47_48 (w : wo) : am_gR (wst w) 47 12 48 = some (some 71) := gR_of rfl rfl
theorem gR_47_49 (w : wo) : am_gR (wst w) 47 12 49 = some (some 72) := gR_of rfl rfl
theorem gR_47_50 (w : wo) : am_gR (wst w) 47 12 50 = some (some 73) := gR_of rfl rfl
theorem gI_47_51 (w : wo) : am_gI (wst w) 47 12 51 = some (ii (wI w 47 51)) := gI_of rfl rfl
theorem pI_47_51 (w : wo) (x : Int) : am_pf (wst w) 47 12 51 (am_I (ii x)) = some (wst (uI w 47 51 x)) := pI_of rfl rfl
theorem gI_47_52 (w : wo) : am_gI (wst w) 47 12 52 = some (ii (wI w 47 52)) := gI_of rfl rfl
theorem pI_47_52 (w : wo) (x : Int) : am_pf (wst w) 47 12 52 (am_I (ii x)) = some (wst (uI w 47 52 x)) := pI_of rfl rfl
theorem gI_47_53 (w : wo) : am_gI (wst w) 47 12 53 = some (ii (wI w 47 53)) := gI_of rfl rfl
theorem pI_47_53 (w : wo) (x : Int) : am_pf (wst w) 47 12 53 (am_I (ii x)) = some (wst (uI w 47 53 x)) := pI_of rfl rfl
theorem gR_47_54 (w : wo) : am_gR (wst w) 47 12 54 = some (some 74) := gR_of rfl rfl
theorem gR_47_55 (w : wo) : am_gR (wst w) 47 12 55 = some (some 75) := gR_of rfl rfl
theorem gR_47_56 (w : wo) : am_gR (wst w) 47 12 56 = some (some 76) := gR_of rfl rfl
theorem len_2 (w : wo) : am_len (wst w) 2 = some 200 := len_of (t := 0) rfl
theorem e_2 (w : wo) {z : Int} (h0 : 0 ≤ z) (h1 : z < 200) : am_eI (wst w) 2 0 (ii z) = some (ii (wA w 2 z)) := eI_of (t := 0) (n := 200) rfl rfl rfl h0 h1 (by decide)
theorem t_2 (w : wo) {z : Int} (x : Int) (h0 : 0 ≤ z) (h1 : z < 200) : am_tI (wst w) 2 (ii z) (ii x) = some (wst (uA w 2 (fu (wA w 2) z x))) := tI_of (n := 200) rfl h0 h1 (by decide)
theorem len_3 (w : wo) : am_len (wst w) 3 = some 200 := len_of (t := 0) rfl
theorem e_3 (w : wo) {z : Int} (h0 : 0 ≤ z) (h1 : z < 200) : am_eI (wst w) 3 0 (ii z) = some (ii (wA w 3 z)) := eI_of (t := 0) (n := 200) rfl rfl rfl h0 h1 (by decide)
theorem t_3 (w : wo) {z : Int} (x : Int) (h0 : 0 ≤ z) (h1 : z < 200) : am_tI (wst w) 3 (ii z) (ii x) = some (wst (uA w 3 (fu (wA w 3) z x))) := tI_of (n := 200) rfl h0 h1 (by decide)
theorem len_4 (w : wo) : am_len (wst w) 4 = some 200 := len_of (t := 0) rfl
theorem e_4 (w : wo) {z : Int} (h0 : 0 ≤ z) (h1 : z < 200) : am_eI (wst w) 4 0 (ii z) = some (ii (wA w 4 z)) := eI_of (t := 0) (n := 200) rfl rfl rfl h0 h1 (by decide)
theorem t_4 (w : wo) {z : Int} (x : Int) (h0 : 0 ≤ z) (h1 : z < 200) : am_tI (wst w) 4 (ii z) (ii x) = some (wst (uA w 4 (fu (wA w 4) z x))) := tI_of (n := 200) rfl h0 h1 (by decide)
theorem len_5 (w : wo) : am_len (wst w) 5 = some 200 := len_of (t := 0) rfl
theorem e_5 (w : wo) {z : Int} (h0 : 0 ≤ z) (h1 : z < 200) : am_eI (wst w) 5 0 (ii z) = some (ii (wA w 5 z)) := eI_of (t := 0) (n := 200) rfl rfl rfl h0 h1 (by decide)
theorem t_5 (w : wo) {z : Int} (x : Int) (h0 : 0 ≤ z) (h1 : z < 200) : am_tI (wst w) 5 (ii z) (ii x) = some (wst (uA w 5 (fu (wA w 5) z x))) := tI_of (n := 200) rfl h0 h1 (by decide)
theorem len_6 (w : wo) : am_len (wst w) 6 = some 1200 := len_of (t := 0) rfl
theorem e_6 (w : wo) {z : Int} (h0 : 0 ≤ z) (h1 : z < 1200) : am_eI (wst w) 6 0 (ii z) = some (ii (wA w 6 z)) := eI_of (t := 0) (n := 1200) rfl rfl rfl h0 h1 (by decide)
theorem t_6 (w : wo) {z : Int} (x : Int) (h0 : 0 ≤ z) (h1 : z < 1200) : am_tI (wst w) 6 (ii z) (ii x) = some (wst (uA w 6 (fu (wA w 6) z x))) := tI_of (n := 1200) rfl h0 h1 (by decide)
theorem len_8 (w : wo) : am_len (wst w) 8 = some 200 := len_of (t := 0) rfl
theorem e_8 (w : wo) {z : Int} (h0 : 0 ≤ z) (h1 : z < 200) : am_eI (wst w) 8 0 (ii z) = some (ii (wA w 8 z)) := eI_of (t := 0) (n := 200) rfl rfl rfl h0 h1 (by decide)
theorem t_8 (w : wo) {z : Int} (x : Int) (h0 : 0 ≤ z) (h1 : z < 200) : am_tI (wst w) 8 (ii z) (ii x) = some (wst (uA w 8 (fu (wA w 8) z x))) := tI_of (n := 200) rfl h0 h1 (by decide)
theorem len_9 (w : wo) : am_len (wst w) 9 = some 200 := len_of (t := 1) rfl
theorem e_9 (w : wo) {z : Int} (h0 : 0 ≤ z) (h1 : z < 200) : am_eI (wst w) 9 1 (ii z) = some (ii (wA w 9 z)) := eI_of (t := 1) (n := 200) rfl rfl rfl h0 h1 (by decide)
theorem t_9 (w : wo) {z : Int} {x : Int} (hx : x = 0 ∨ x = 1) (h0 : 0 ≤ z) (h1 : z < 200) : am_tB (wst w) 9 (ii z) (ii x) = some (wst (uA w 9 (fu (wA w 9) z x))) := tZ_of (n := 200) rfl hx h0 h1 (by decide)
theorem len_10 (w : wo) : am_len (wst w) 10 = some 200 := len_of (t := 1) rfl
theorem e_10 (w : wo) {z : Int} (h0 : 0 ≤ z) (h1 : z < 200) : am_eI (wst w) 10 1 (ii z) = some (ii (wA w 10 z)) := eI_of (t := 1) (n := 200) rfl rfl rfl h0 h1 (by decide)
theorem t_10 (w : wo) {z : Int} {x : Int} (hx : x = 0 ∨ x = 1) (h0 : 0 ≤ z) (h1 : z < 200) : am_tB (wst w) 10 (ii z) (ii x) = some (wst (uA w 10 (fu (wA w 10) z x))) := tZ_of (n := 200) rfl hx h0 h1 (by decide)
theorem len_11 (w : wo) : am_len (wst w) 11 = some 4 := len_of (t := 4) rfl
theorem e_11 (w : wo) {z : Int} (h0 : 0 ≤ z) (h1 : z < 4) : am_eR (wst w) 11 (ii z) = some (wR w 11 z) := eR_of (t := 4) (n := 4) rfl rfl h0 h1 (by decide)
theorem t_11 (w : wo) {z : Int} {v : Nat} (hv : shp w v = some (0, 1, 0)) (h0 : 0 ≤ z) (h1 : z < 4) : am_tR (wst w) 11 (ii z) v = some (wst (uR w 11 (fu (wR w 11) z (some v)))) := tR_of (t := 4) (n := 4) rfl rfl hv h0 h1 (by decide)
theorem len_12 (w : wo) : am_len (wst w) 12 = some 4 := len_of (t := 5) rfl
theorem e_12 (w : wo) {z : Int} (h0 : 0 ≤ z) (h1 : z < 4) : am_eR (wst w) 12 (ii z) = some (wR w 12 z) := eR_of (t := 5) (n := 4) rfl rfl h0 h1 (by decide)
theorem t_12 (w : wo) {z : Int} {v : Nat} (hv : shp w v = some (0, 4, 0)) (h0 : 0 ≤ z) (h1 : z < 4) : am_tR (wst w) 12 (ii z) v = some (wst (uR w 12 (fu (wR w 12) z (some v)))) := tR_of (t := 5) (n := 4) rfl rfl hv h0 h1 (by decide)
theorem len_14 (w : wo) : am_len (wst w) 14 = some 400 := len_of (t := 0) rfl
theorem e_14 (w : wo) {z : Int} (h0 : 0 ≤ z) (h1 : z < 400) : am_eI (wst w) 14 0 (ii z) = some (ii (wA w 14 z)) := eI_of (t := 0) (n := 400) rfl rfl rfl h0 h1 (by decide)
theorem t_14 (w : wo) {z : Int} (x : Int) (h0 : 0 ≤ z) (h1 : z < 400) : am_tI (wst w) 14 (ii z) (ii x) = some (wst (uA w 14 (fu (wA w 14) z x))) := tI_of (n := 400) rfl h0 h1 (by decide)
theorem len_15 (w : wo) : am_len (wst w) 15 = some 401 := len_of (t := 0) rfl
theorem e_15 (w : wo) {z : Int} (h0 : 0 ≤ z) (h1 : z < 401) : am_eI (wst w) 15 0 (ii z) = some (ii (wA w 15 z)) := eI_of (t := 0) (n := 401) rfl rfl rfl h0 h1 (by decide)
theorem t_15 (w : wo) {z : Int} (x : Int) (h0 : 0 ≤ z) (h1 : z < 401) : am_tI (wst w) 15 (ii z) (ii x) = some (wst (uA w 15 (fu (wA w 15) z x))) := tI_of (n := 401) rfl h0 h1 (by decide)
theorem len_16 (w : wo) : am_len (wst w) 16 = some 401 := len_of (t := 0) rfl
theorem e_16 (w : wo) {z : Int} (h0 : 0 ≤ z) (h1 : z < 401) : am_eI (wst w) 16 0 (ii z) = some (ii (wA w 16 z)) := eI_of (t := 0) (n := 401) rfl rfl rfl h0 h1 (by decide)
theorem t_16 (w : wo) {z : Int} (x : Int) (h0 : 0 ≤ z) (h1 : z < 401) : am_tI (wst w) 16 (ii z) (ii x) = some (wst (uA w 16 (fu (wA w 16) z x))) := tI_of (n := 401) rfl h0 h1 (by decide)
theorem len_17 (w : wo) : am_len (wst w) 17 = some 401 := len_of (t := 0) rfl
theorem e_17 (w : wo) {z : Int} (h0 : 0 ≤ z) (h1 : z < 401) : am_eI (wst w) 17 0 (ii z) = some (ii (wA w 17 z)) := eI_of (t := 0) (n := 401) rfl rfl rfl h0 h1 (by decide)
theorem t_17 (w : wo) {z : Int} (x : Int) (h0 : 0 ≤ z) (h1 : z < 401) : am_tI (wst w) 17 (ii z) (ii x) = some (wst (uA w 17 (fu (wA w 17) z x))) := tI_of (n := 401) rfl h0 h1 (by decide)
theorem len_18 (w : wo) : am_len (wst w) 18 = some 400 := len_of (t := 0) rfl
theorem e_18 (w : wo) {z : Int} (h0 : 0 ≤ z) (h1 : z < 400) : am_eI (wst w) 18 0 (ii z) = some (ii (wA w 18 z)) := eI_of (t := 0) (n := 400) rfl rfl rfl h0 h1 (by decide)
theorem t_18 (w : wo) {z : Int} (x : Int) (h0 : 0 ≤ z) (h1 : z < 400) : am_tI (wst w) 18 (ii z) (ii x) = some (wst (uA w 18 (fu (wA w 18) z x))) := tI_of (n := 400) rfl h0 h1 (by decide)
theorem len_19 (w : wo) : am_len (wst w) 19 = some 400 := len_of (t := 0) rfl
theorem e_19 (w : wo) {z : Int} (h0 : 0 ≤ z) (h1 : z < 400) : am_eI (wst w) 19 0 (ii z) = some (ii (wA w 19 z)) := eI_of (t := 0) (n := 400) rfl rfl rfl h0 h1 (by decide)
theorem t_19 (w : wo) {z : Int} (x : Int) (h0 : 0 ≤ z) (h1 : z < 400) : am_tI (wst w) 19 (ii z) (ii x) = some (wst (uA w 19 (fu (wA w 19) z x))) := tI_of (n := 400) rfl h0 h1 (by decide)
theorem len_20 (w : wo) : am_len (wst w) 20 = some 8 := len_of (t := 6) rfl
theorem e_20 (w : wo) {z : Int} (h0 : 0 ≤ z) (h1 : z < 8) : am_eR (wst w) 20 (ii z) = some (wR w 20 z) := eR_of (t := 6) (n := 8) rfl rfl h0 h1 (by decide)
theorem t_20 (w : wo) {z : Int} {v : Nat} (hv : shp w v = some (0, 10, 0)) (h0 : 0 ≤ z) (h1 : z < 8) : am_tR (wst w) 20 (ii z) v = some (wst (uR w 20 (fu (wR w 20) z (some v)))) := tR_of (t := 6) (n := 8) rfl rfl hv h0 h1 (by decide)
theorem len_21 (w : wo) : am_len (wst w) 21 = some 8 := len_of (t := 7) rfl
theorem e_21 (w : wo) {z : Int} (h0 : 0 ≤ z) (h1 : z < 8) : am_eR (wst w) 21 (ii z) = some (wR w 21 z) := eR_of (t := 7) (n := 8) rfl rfl h0 h1 (by decide)
theorem t_21 (w : wo) {z : Int} {v : Nat} (hv : shp w v = some (0, 9, 0)) (h0 : 0 ≤ z) (h1 : z < 8) : am_tR (wst w) 21 (ii z) v = some (wst (uR w 21 (fu (wR w 21) z (some v)))) := tR_of (t := 7) (n := 8) rfl rfl hv h0 h1 (by decide)
theorem len_23 (w : wo) : am_len (wst w) 23 = some 11 := len_of (t := 0) rfl
theorem e_23 (w : wo) {z : Int} (h0 : 0 ≤ z) (h1 : z < 11) : am_eI (wst w) 23 0 (ii z) = some (ii (wA w 23 z)) := eI_of (t := 0) (n := 11) rfl rfl rfl h0 h1 (by decide)
theorem t_23 (w : wo) {z : Int} (x : Int) (h0 : 0 ≤ z) (h1 : z < 11) : am_tI (wst w) 23 (ii z) (ii x) = some (wst (uA w 23 (fu (wA w 23) z x))) := tI_of (n := 11) rfl h0 h1 (by decide)
theorem len_24 (w : wo) : am_len (wst w) 24 = some 200 := len_of (t := 0) rfl
theorem e_24 (w : wo) {z : Int} (h0 : 0 ≤ z) (h1 : z < 200) : am_eI (wst w) 24 0 (ii z) = some (ii (wA w 24 z)) := eI_of (t := 0) (n := 200) rfl rfl rfl h0 h1 (by decide)
theorem t_24 (w : wo) {z : Int} (x : Int) (h0 : 0 ≤ z) (h1 : z < 200) : am_tI (wst w) 24 (ii z) (ii x) = some (wst (uA w 24 (fu (wA w 24) z x))) := tI_of (n := 200) rfl h0 h1 (by decide)
theorem len_25 (w : wo) : am_len (wst w) 25 = some 200 := len_of (t := 0) rfl
theorem e_25 (w : wo) {z : Int} (h0 : 0 ≤ z) (h1 : z < 200) : am_eI (wst w) 25 0 (ii z) = some (ii (wA w 25 z)) := eI_of (t := 0) (n := 200) rfl rfl rfl h0 h1 (by decide)
theorem t_25 (w : wo) {z : Int} (x : Int) (h0 : 0 ≤ z) (h1 : z < 200) : am_tI (wst w) 25 (ii z) (ii x) = some (wst (uA w 25 (fu (wA w 25) z x))) := tI_of (n := 200) rfl h0 h1 (by decide)
theorem len_26 (w : wo) : am_len (wst w) 26 = some 200 := len_of (t := 0) rfl
theorem e_26 (w : wo) {z : Int} (h0 : 0 ≤ z) (h1 : z < 200) : am_eI (wst w) 26 0 (ii z) = some (ii (wA w 26 z)) := eI_of (t := 0) (n := 200) rfl rfl rfl h0 h1 (by decide)
theorem t_26 (w : wo) {z : Int} (x : Int) (h0 : 0 ≤ z) (h1 : z < 200) : am_tI (wst w) 26 (ii z) (ii x) = some (wst (uA w 26 (fu (wA w 26) z x))) := tI_of (n := 200) rfl h0 h1 (by decide)
theorem len_27 (w : wo) : am_len (wst w) 27 = some 800 := len_of (t := 0) rfl
theorem e_27 (w : wo) {z : Int} (h0 : 0 ≤ z) (h1 : z < 800) : am_eI (wst w) 27 0 (ii z) = some (ii (wA w 27 z)) := eI_of (t := 0) (n := 800) rfl rfl rfl h0 h1 (by decide)
theorem t_27 (w : wo) {z : Int} (x : Int) (h0 : 0 ≤ z) (h1 : z < 800) : am_tI (wst w) 27 (ii z) (ii x) = some (wst (uA w 27 (fu (wA w 27) z x))) := tI_of (n := 800) rfl h0 h1 (by decide)
theorem len_30 (w : wo) : am_len (wst w) 30 = some 10 := len_of (t := 0) rfl
theorem e_30 (w : wo) {z : Int} (h0 : 0 ≤ z) (h1 : z < 10) : am_eI (wst w) 30 0 (ii z) = some (ii (wA w 30 z)) := eI_of (t := 0) (n := 10) rfl rfl rfl h0 h1 (by decide)
theorem t_30 (w : wo) {z : Int} (x : Int) (h0 : 0 ≤ z) (h1 : z < 10) : am_tI (wst w) 30 (ii z) (ii x) = some (wst (uA w 30 (fu (wA w 30) z x))) := tI_of (n := 10) rfl h0 h1 (by decide)
theorem len_31 (w : wo) : am_len (wst w) 31 = some 10 := len_of (t := 0) rfl
theorem e_31 (w : wo) {z : Int} (h0 : 0 ≤ z) (h1 : z < 10) : am_eI (wst w) 31 0 (ii z) = some (ii (wA w 31 z)) := eI_of (t := 0) (n := 10) rfl rfl rfl h0 h1 (by decide)
theorem t_31 (w : wo) {z : Int} (x : Int) (h0 : 0 ≤ z) (h1 : z < 10) : am_tI (wst w) 31 (ii z) (ii x) = some (wst (uA w 31 (fu (wA w 31) z x))) := tI_of (n := 10) rfl h0 h1 (by decide)
theorem len_32 (w : wo) : am_len (wst w) 32 = some 121 := len_of (t := 0) rfl
theorem e_32 (w : wo) {z : Int} (h0 : 0 ≤ z) (h1 : z < 121) : am_eI (wst w) 32 0 (ii z) = some (ii (wA w 32 z)) := eI_of (t := 0) (n := 121) rfl rfl rfl h0 h1 (by decide)
theorem t_32 (w : wo) {z : Int} (x : Int) (h0 : 0 ≤ z) (h1 : z < 121) : am_tI (wst w) 32 (ii z) (ii x) = some (wst (uA w 32 (fu (wA w 32) z x))) := tI_of (n := 121) rfl h0 h1 (by decide)
theorem len_33 (w : wo) : am_len (wst w) 33 = some 11 := len_of (t := 0) rfl
theorem e_33 (w : wo) {z : Int} (h0 : 0 ≤ z) (h1 : z < 11) : am_eI (wst w) 33 0 (ii z) = some (ii (wA w 33 z)) := eI_of (t := 0) (n := 11) rfl rfl rfl h0 h1 (by decide)
theorem t_33 (w : wo) {z : Int} (x : Int) (h0 : 0 ≤ z) (h1 : z < 11) : am_tI (wst w) 33 (ii z) (ii x) = some (wst (uA w 33 (fu (wA w 33) z x))) := tI_of (n := 11) rfl h0 h1 (by decide)
theorem len_34 (w : wo) : am_len (wst w) 34 = some 11 := len_of (t := 0) rfl
theorem e_34 (w : wo) {z : Int} (h0 : 0 ≤ z) (h1 : z < 11) : am_eI (wst w) 34 0 (ii z) = some (ii (wA w 34 z)) := eI_of (t := 0) (n := 11) rfl rfl rfl h0 h1 (by decide)
theorem t_34 (w : wo) {z : Int} (x : Int) (h0 : 0 ≤ z) (h1 : z < 11) : am_tI (wst w) 34 (ii z) (ii x) = some (wst (uA w 34 (fu (wA w 34) z x))) := tI_of (n := 11) rfl h0 h1 (by decide)
theorem len_35 (w : wo) : am_len (wst w) 35 = some 11 := len_of (t := 0) rfl
theorem e_35 (w : wo) {z : Int} (h0 : 0 ≤ z) (h1 : z < 11) : am_eI (wst w) 35 0 (ii z) = some (ii (wA w 35 z)) := eI_of (t := 0) (n := 11) rfl rfl rfl h0 h1 (by decide)
theorem t_35 (w : wo) {z : Int} (x : Int) (h0 : 0 ≤ z) (h1 : z < 11) : am_tI (wst w) 35 (ii z) (ii x) = some (wst (uA w 35 (fu (wA w 35) z x))) := tI_of (n := 11) rfl h0 h1 (by decide)
theorem len_36 (w : wo) : am_len (wst w) 36 = some 11 := len_of (t := 0) rfl
theorem e_36 (w : wo) {z : Int} (h0 : 0 ≤ z) (h1 : z < 11) : am_eI (wst w) 36 0 (ii z) = some (ii (wA w 36 z)) := eI_of (t := 0) (n := 11) rfl rfl rfl h0 h1 (by decide)
theorem t_36 (w : wo) {z : Int} (x : Int) (h0 : 0 ≤ z) (h1 : z < 11) : am_tI (wst w) 36 (ii z) (ii x) = some (wst (uA w 36 (fu (wA w 36) z x))) := tI_of (n := 11) rfl h0 h1 (by decide)
theorem len_37 (w : wo) : am_len (wst w) 37 = some 11 := len_of (t := 0) rfl
theorem e_37 (w : wo) {z : Int} (h0 : 0 ≤ z) (h1 : z < 11) : am_eI (wst w) 37 0 (ii z) = some (ii (wA w 37 z)) := eI_of (t := 0) (n := 11) rfl rfl rfl h0 h1 (by decide)
theorem t_37 (w : wo) {z : Int} (x : Int) (h0 : 0 ≤ z) (h1 : z < 11) : am_tI (wst w) 37 (ii z) (ii x) = some (wst (uA w 37 (fu (wA w 37) z x))) := tI_of (n := 11) rfl h0 h1 (by decide)
theorem len_38 (w : wo) : am_len (wst w) 38 = some 11 := len_of (t := 1) rfl
theorem e_38 (w : wo) {z : Int} (h0 : 0 ≤ z) (h1 : z < 11) : am_eI (wst w) 38 1 (ii z) = some (ii (wA w 38 z)) := eI_of (t := 1) (n := 11) rfl rfl rfl h0 h1 (by decide)
theorem t_38 (w : wo) {z : Int} {x : Int} (hx : x = 0 ∨ x = 1) (h0 : 0 ≤ z) (h1 : z < 11) : am_tB (wst w) 38 (ii z) (ii x) = some (wst (uA w 38 (fu (wA w 38) z x))) := tZ_of (n := 11) rfl hx h0 h1 (by decide)
theorem len_40 (w : wo) : am_len (wst w) 40 = some 22 := len_of (t := 0) rfl
theorem e_40 (w : wo) {z : Int} (h0 : 0 ≤ z) (h1 : z < 22) : am_eI (wst w) 40 0 (ii z) = some (ii (wA w 40 z)) := eI_of (t := 0) (n := 22) rfl rfl rfl h0 h1 (by decide)
theorem t_40 (w : wo) {z : Int} (x : Int) (h0 : 0 ≤ z) (h1 : z < 22) : am_tI (wst w) 40 (ii z) (ii x) = some (wst (uA w 40 (fu (wA w 40) z x))) := tI_of (n := 22) rfl h0 h1 (by decide)
theorem len_41 (w : wo) : am_len (wst w) 41 = some 22 := len_of (t := 0) rfl
theorem e_41 (w : wo) {z : Int} (h0 : 0 ≤ z) (h1 : z < 22) : am_eI (wst w) 41 0 (ii z) = some (ii (wA w 41 z)) := eI_of (t := 0) (n := 22) rfl rfl rfl h0 h1 (by decide)
theorem t_41 (w : wo) {z : Int} (x : Int) (h0 : 0 ≤ z) (h1 : z < 22) : am_tI (wst w) 41 (ii z) (ii x) = some (wst (uA w 41 (fu (wA w 41) z x))) := tI_of (n := 22) rfl h0 h1 (by decide)
theorem len_43 (w : wo) : am_len (wst w) 43 = some 444 := len_of (t := 3) rfl
theorem e_43 (w : wo) {z : Int} (h0 : 0 ≤ z) (h1 : z < 444) : am_eL (wst w) 43 (ii z) = some (jj (wB w 43 z)) := eL_of (n := 444) rfl h0 h1 (by decide)
theorem t_43 (w : wo) {z : Int} (x : Int) (h0 : 0 ≤ z) (h1 : z < 444) : am_tL (wst w) 43 (ii z) (jj x) = some (wst (uB w 43 (fu (wB w 43) z x))) := tL_of (n := 444) rfl h0 h1 (by decide)
theorem len_44 (w : wo) : am_len (wst w) 44 = some 4 := len_of (t := 3) rfl
theorem e_44 (w : wo) {z : Int} (h0 : 0 ≤ z) (h1 : z < 4) : am_eL (wst w) 44 (ii z) = some (jj (wB w 44 z)) := eL_of (n := 4) rfl h0 h1 (by decide)
theorem t_44 (w : wo) {z : Int} (x : Int) (h0 : 0 ≤ z) (h1 : z < 4) : am_tL (wst w) 44 (ii z) (jj x) = some (wst (uB w 44 (fu (wB w 44) z x))) := tL_of (n := 4) rfl h0 h1 (by decide)
theorem len_46 (w : wo) : am_len (wst w) 46 = some 11 := len_of (t := 0) rfl
theorem e_46 (w : wo) {z : Int} (h0 : 0 ≤ z) (h1 : z < 11) : am_eI (wst w) 46 0 (ii z) = some (ii (wA w 46 z)) := eI_of (t := 0) (n := 11) rfl rfl rfl h0 h1 (by decide)
theorem t_46 (w : wo) {z : Int} (x : Int) (h0 : 0 ≤ z) (h1 : z < 11) : am_tI (wst w) 46 (ii z) (ii x) = some (wst (uA w 46 (fu (wA w 46) z x))) := tI_of (n := 11) rfl h0 h1 (by decide)
theorem len_48 (w : wo) : am_len (wst w) 48 = some 2000 := len_of (t := 0) rfl
theorem e_48 (w : wo) {z : Int} (h0 : 0 ≤ z) (h1 : z < 2000) : am_eI (wst w) 48 0 (ii z) = some (ii (wA w 48 z)) := eI_of (t := 0) (n := 2000) rfl rfl rfl h0 h1 (by decide)
theorem t_48 (w : wo) {z : Int} (x : Int) (h0 : 0 ≤ z) (h1 : z < 2000) : am_tI (wst w) 48 (ii z) (ii x) = some (wst (uA w 48 (fu (wA w 48) z x))) := tI_of (n := 2000) rfl h0 h1 (by decide)
theorem len_49 (w : wo) : am_len (wst w) 49 = some 600 := len_of (t := 0) rfl
theorem e_49 (w : wo) {z : Int} (h0 : 0 ≤ z) (h1 : z < 600) : am_eI (wst w) 49 0 (ii z) = some (ii (wA w 49 z)) := eI_of (t := 0) (n := 600) rfl rfl rfl h0 h1 (by decide)
theorem t_49 (w : wo) {z : Int} (x : Int) (h0 : 0 ≤ z) (h1 : z < 600) : am_tI (wst w) 49 (ii z) (ii x) = some (wst (uA w 49 (fu (wA w 49) z x))) := tI_of (n := 600) rfl h0 h1 (by decide)
theorem len_50 (w : wo) : am_len (wst w) 50 = some 400 := len_of (t := 2) rfl
theorem e_50 (w : wo) {z : Int} (h0 : 0 ≤ z) (h1 : z < 400) : am_eI (wst w) 50 1 (ii z) = some (ii (wA w 50 z)) := eI_of (t := 2) (n := 400) rfl rfl rfl h0 h1 (by decide)
theorem t_50 (w : wo) {z : Int} {x : Int} (hx1 : -128 ≤ x) (hx2 : x ≤ 127) (h0 : 0 ≤ z) (h1 : z < 400) : am_tB (wst w) 50 (ii z) (ii x) = some (wst (uA w 50 (fu (wA w 50) z x))) := tT_of (n := 400) rfl ⟨hx1, hx2⟩ h0 h1 (by decide)
theorem len_51 (w : wo) : am_len (wst w) 51 = some 6400 := len_of (t := 0) rfl
theorem e_51 (w : wo) {z : Int} (h0 : 0 ≤ z) (h1 : z < 6400) : am_eI (wst w) 51 0 (ii z) = some (ii (wA w 51 z)) := eI_of (t := 0) (n := 6400) rfl rfl rfl h0 h1 (by decide)
theorem t_51 (w : wo) {z : Int} (x : Int) (h0 : 0 ≤ z) (h1 : z < 6400) : am_tI (wst w) 51 (ii z) (ii x) = some (wst (uA w 51 (fu (wA w 51) z x))) := tI_of (n := 6400) rfl h0 h1 (by decide)
theorem len_52 (w : wo) : am_len (wst w) 52 = some 16 := len_of (t := 0) rfl
theorem e_52 (w : wo) {z : Int} (h0 : 0 ≤ z) (h1 : z < 16) : am_eI (wst w) 52 0 (ii z) = some (ii (wA w 52 z)) := eI_of (t := 0) (n := 16) rfl rfl rfl h0 h1 (by decide)
theorem t_52 (w : wo) {z : Int} (x : Int) (h0 : 0 ≤ z) (h1 : z < 16) : am_tI (wst w) 52 (ii z) (ii x) = some (wst (uA w 52 (fu (wA w 52) z x))) := tI_of (n := 16) rfl h0 h1 (by decide)
theorem len_53 (w : wo) : am_len (wst w) 53 = some 8 := len_of (t := 1) rfl
theorem e_53 (w : wo) {z : Int} (h0 : 0 ≤ z) (h1 : z < 8) : am_eI (wst w) 53 1 (ii z) = some (ii (wA w 53 z)) := eI_of (t := 1) (n := 8) rfl rfl rfl h0 h1 (by decide)
theorem t_53 (w : wo) {z : Int} {x : Int} (hx : x = 0 ∨ x = 1) (h0 : 0 ≤ z) (h1 : z < 8) : am_tB (wst w) 53 (ii z) (ii x) = some (wst (uA w 53 (fu (wA w 53) z x))) := tZ_of (n := 8) rfl hx h0 h1 (by decide)
theorem len_54 (w : wo) : am_len (wst w) 54 = some 8 := len_of (t := 0) rfl
theorem e_54 (w : wo) {z : Int} (h0 : 0 ≤ z) (h1 : z < 8) : am_eI (wst w) 54 0 (ii z) = some (ii (wA w 54 z)) := eI_of (t := 0) (n := 8) rfl rfl rfl h0 h1 (by decide)
theorem t_54 (w : wo) {z : Int} (x : Int) (h0 : 0 ≤ z) (h1 : z < 8) : am_tI (wst w) 54 (ii z) (ii x) = some (wst (uA w 54 (fu (wA w 54) z x))) := tI_of (n := 8) rfl h0 h1 (by decide)
theorem len_55 (w : wo) : am_len (wst w) 55 = some 48 := len_of (t := 0) rfl
theorem e_55 (w : wo) {z : Int} (h0 : 0 ≤ z) (h1 : z < 48) : am_eI (wst w) 55 0 (ii z) = some (ii (wA w 55 z)) := eI_of (t := 0) (n := 48) rfl rfl rfl h0 h1 (by decide)
theorem t_55 (w : wo) {z : Int} (x : Int) (h0 : 0 ≤ z) (h1 : z < 48) : am_tI (wst w) 55 (ii z) (ii x) = some (wst (uA w 55 (fu (wA w 55) z x))) := tI_of (n := 48) rfl h0 h1 (by decide)
theorem len_56 (w : wo) : am_len (wst w) 56 = some 8 := len_of (t := 0) rfl
theorem e_56 (w : wo) {z : Int} (h0 : 0 ≤ z) (h1 : z < 8) : am_eI (wst w) 56 0 (ii z) = some (ii (wA w 56 z)) := eI_of (t := 0) (n := 8) rfl rfl rfl h0 h1 (by decide)
theorem t_56 (w : wo) {z : Int} (x : Int) (h0 : 0 ≤ z) (h1 : z < 8) : am_tI (wst w) 56 (ii z) (ii x) = some (wst (uA w 56 (fu (wA w 56) z x))) := tI_of (n := 8) rfl h0 h1 (by decide)
theorem len_57 (w : wo) : am_len (wst w) 57 = some 400 := len_of (t := 0) rfl
theorem e_57 (w : wo) {z : Int} (h0 : 0 ≤ z) (h1 : z < 400) : am_eI (wst w) 57 0 (ii z) = some (ii (wA w 57 z)) := eI_of (t := 0) (n := 400) rfl rfl rfl h0 h1 (by decide)
theorem t_57 (w : wo) {z : Int} (x : Int) (h0 : 0 ≤ z) (h1 : z < 400) : am_tI (wst w) 57 (ii z) (ii x) = some (wst (uA w 57 (fu (wA w 57) z x))) := tI_of (n := 400) rfl h0 h1 (by decide)
theorem len_58 (w : wo) : am_len (wst w) 58 = some 64 := len_of (t := 0) rfl
theorem e_58 (w : wo) {z : Int} (h0 : 0 ≤ z) (h1 : z < 64) : am_eI (wst w) 58 0 (ii z) = some (ii (wA w 58 z)) := eI_of (t := 0) (n := 64) rfl rfl rfl h0 h1 (by decide)
theorem t_58 (w : wo) {z : Int} (x : Int) (h0 : 0 ≤ z) (h1 : z < 64) : am_tI (wst w) 58 (ii z) (ii x) = some (wst (uA w 58 (fu (wA w 58) z x))) := tI_of (n := 64) rfl h0 h1 (by decide)
theorem len_59 (w : wo) : am_len (wst w) 59 = some 200 := len_of (t := 0) rfl
theorem e_59 (w : wo) {z : Int} (h0 : 0 ≤ z) (h1 : z < 200) : am_eI (wst w) 59 0 (ii z) = some (ii (wA w 59 z)) := eI_of (t := 0) (n := 200) rfl rfl rfl h0 h1 (by decide)
theorem t_59 (w : wo) {z : Int} (x : Int) (h0 : 0 ≤ z) (h1 : z < 200) : am_tI (wst w) 59 (ii z) (ii x) = some (wst (uA w 59 (fu (wA w 59) z x))) := tI_of (n := 200) rfl h0 h1 (by decide)
theorem len_60 (w : wo) : am_len (wst w) 60 = some 2 := len_of (t := 0) rfl
theorem e_60 (w : wo) {z : Int} (h0 : 0 ≤ z) (h1 : z < 2) : am_eI (wst w) 60 0 (ii z) = some (ii (wA w 60 z)) := eI_of (t := 0) (n := 2) rfl rfl rfl h0 h1 (by decide)
theorem t_60 (w : wo) {z : Int} (x : Int) (h0 : 0 ≤ z) (h1 : z < 2) : am_tI (wst w) 60 (ii z) (ii x) = some (wst (uA w 60 (fu (wA w 60) z x))) := tI_of (n := 2) rfl h0 h1 (by decide)
theorem len_61 (w : wo) : am_len (wst w) 61 = some 2 := len_of (t := 0) rfl
theorem e_61 (w : wo) {z : Int} (h0 : 0 ≤ z) (h1 : z < 2) : am_eI (wst w) 61 0 (ii z) = some (ii (wA w 61 z)) := eI_of (t := 0) (n := 2) rfl rfl rfl h0 h1 (by decide)
theorem t_61 (w : wo) {z : Int} (x : Int) (h0 : 0 ≤ z) (h1 : z < 2) : am_tI (wst w) 61 (ii z) (ii x) = some (wst (uA w 61 (fu (wA w 61) z x))) := tI_of (n := 2) rfl h0 h1 (by decide)
theorem len_62 (w : wo) : am_len (wst w) 62 = some 3721 := len_of (t := 3) rfl
theorem e_62 (w : wo) {z : Int} (h0 : 0 ≤ z) (h1 : z < 3721) : am_eL (wst w) 62 (ii z) = some (jj (wB w 62 z)) := eL_of (n := 3721) rfl h0 h1 (by decide)
theorem t_62 (w : wo) {z : Int} (x : Int) (h0 : 0 ≤ z) (h1 : z < 3721) : am_tL (wst w) 62 (ii z) (jj x) = some (wst (uB w 62 (fu (wB w 62) z x))) := tL_of (n := 3721) rfl h0 h1 (by decide)
theorem len_63 (w : wo) : am_len (wst w) 63 = some 200 := len_of (t := 0) rfl
theorem e_63 (w : wo) {z : Int} (h0 : 0 ≤ z) (h1 : z < 200) : am_eI (wst w) 63 0 (ii z) = some (ii (wA w 63 z)) := eI_of (t := 0) (n := 200) rfl rfl rfl h0 h1 (by decide)
theorem t_63 (w : wo) {z : Int} (x : Int) (h0 : 0 ≤ z) (h1 : z < 200) : am_tI (wst w) 63 (ii z) (ii x) = some (wst (uA w 63 (fu (wA w 63) z x))) := tI_of (n := 200) rfl h0 h1 (by decide)
theorem len_64 (w : wo) : am_len (wst w) 64 = some 800 := len_of (t := 0) rfl
theorem e_64 (w : wo) {z : Int} (h0 : 0 ≤ z) (h1 : z < 800) : am_eI (wst w) 64 0 (ii z) = some (ii (wA w 64 z)) := eI_of (t := 0) (n := 800) rfl rfl rfl h0 h1 (by decide)
theorem t_64 (w : wo) {z : Int} (x : Int) (h0 : 0 ≤ z) (h1 : z < 800) : am_tI (wst w) 64 (ii z) (ii x) = some (wst (uA w 64 (fu (wA w 64) z x))) := tI_of (n := 800) rfl h0 h1 (by decide)
theorem len_65 (w : wo) : am_len (wst w) 65 = some 10 := len_of (t := 0) rfl
theorem e_65 (w : wo) {z : Int} (h0 : 0 ≤ z) (h1 : z < 10) : am_eI (wst w) 65 0 (ii z) = some (ii (wA w 65 z)) := eI_of (t := 0) (n := 10) rfl rfl rfl h0 h1 (by decide)
theorem t_65 (w : wo) {z : Int} (x : Int) (h0 : 0 ≤ z) (h1 : z < 10) : am_tI (wst w) 65 (ii z) (ii x) = some (wst (uA w 65 (fu (wA w 65) z x))) := tI_of (n := 10) rfl h0 h1 (by decide)
theorem len_66 (w : wo) : am_len (wst w) 66 = some 10 := len_of (t := 0) rfl
theorem e_66 (w : wo) {z : Int} (h0 : 0 ≤ z) (h1 : z < 10) : am_eI (wst w) 66 0 (ii z) = some (ii (wA w 66 z)) := eI_of (t := 0) (n := 10) rfl rfl rfl h0 h1 (by decide)
theorem t_66 (w : wo) {z : Int} (x : Int) (h0 : 0 ≤ z) (h1 : z < 10) : am_tI (wst w) 66 (ii z) (ii x) = some (wst (uA w 66 (fu (wA w 66) z x))) := tI_of (n := 10) rfl h0 h1 (by decide)
theorem len_67 (w : wo) : am_len (wst w) 67 = some 1024 := len_of (t := 0) rfl
theorem e_67 (w : wo) {z : Int} (h0 : 0 ≤ z) (h1 : z < 1024) : am_eI (wst w) 67 0 (ii z) = some (ii (wA w 67 z)) := eI_of (t := 0) (n := 1024) rfl rfl rfl h0 h1 (by decide)
theorem t_67 (w : wo) {z : Int} (x : Int) (h0 : 0 ≤ z) (h1 : z < 1024) : am_tI (wst w) 67 (ii z) (ii x) = some (wst (uA w 67 (fu (wA w 67) z x))) := tI_of (n := 1024) rfl h0 h1 (by decide)
theorem len_68 (w : wo) : am_len (wst w) 68 = some 2 := len_of (t := 0) rfl
theorem e_68 (w : wo) {z : Int} (h0 : 0 ≤ z) (h1 : z < 2) : am_eI (wst w) 68 0 (ii z) = some (ii (wA w 68 z)) := eI_of (t := 0) (n := 2) rfl rfl rfl h0 h1 (by decide)
theorem t_68 (w : wo) {z : Int} (x : Int) (h0 : 0 ≤ z) (h1 : z < 2) : am_tI (wst w) 68 (ii z) (ii x) = some (wst (uA w 68 (fu (wA w 68) z x))) := tI_of (n := 2) rfl h0 h1 (by decide)
theorem len_69 (w : wo) : am_len (wst w) 69 = some 2 := len_of (t := 0) rfl
theorem e_69 (w : wo) {z : Int} (h0 : 0 ≤ z) (h1 : z < 2) : am_eI (wst w) 69 0 (ii z) = some (ii (wA w 69 z)) := eI_of (t := 0) (n := 2) rfl rfl rfl h0 h1 (by decide)
theorem t_69 (w : wo) {z : Int} (x : Int) (h0 : 0 ≤ z) (h1 : z < 2) : am_tI (wst w) 69 (ii z) (ii x) = some (wst (uA w 69 (fu (wA w 69) z x))) := tI_of (n := 2) rfl h0 h1 (by decide)
theorem len_70 (w : wo) : am_len (wst w) 70 = some 20 := len_of (t := 0) rfl
theorem e_70 (w : wo) {z : Int} (h0 : 0 ≤ z) (h1 : z < 20) : am_eI (wst w) 70 0 (ii z) = some (ii (wA w 70 z)) := eI_of (t := 0) (n := 20) rfl rfl rfl h0 h1 (by decide)
theorem t_70 (w : wo) {z : Int} (x : Int) (h0 : 0 ≤ z) (h1 : z < 20) : am_tI (wst w) 70 (ii z) (ii x) = some (wst (uA w 70 (fu (wA w 70) z x))) := tI_of (n := 20) rfl h0 h1 (by decide)
theorem len_71 (w : wo) : am_len (wst w) 71 = some 10 := len_of (t := 0) rfl
theorem e_71 (w : wo) {z : Int} (h0 : 0 ≤ z) (h1 : z < 10) : am_eI (wst w) 71 0 (ii z) = some (ii (wA w 71 z)) := eI_of (t := 0) (n := 10) rfl rfl rfl h0 h1 (by decide)
theorem t_71 (w : wo) {z : Int} (x : Int) (h0 : 0 ≤ z) (h1 : z < 10) : am_tI (wst w) 71 (ii z) (ii x) = some (wst (uA w 71 (fu (wA w 71) z x))) := tI_of (n := 10) rfl h0 h1 (by decide)
theorem len_72 (w : wo) : am_len (wst w) 72 = some 200 := len_of (t := 1) rfl
theorem e_72 (w : wo) {z : Int} (h0 : 0 ≤ z) (h1 : z < 200) : am_eI (wst w) 72 1 (ii z) = some (ii (wA w 72 z)) := eI_of (t := 1) (n := 200) rfl rfl rfl h0 h1 (by decide)
theorem t_72 (w : wo) {z : Int} {x : Int} (hx : x = 0 ∨ x = 1) (h0 : 0 ≤ z) (h1 : z < 200) : am_tB (wst w) 72 (ii z) (ii x) = some (wst (uA w 72 (fu (wA w 72) z x))) := tZ_of (n := 200) rfl hx h0 h1 (by decide)
theorem len_73 (w : wo) : am_len (wst w) 73 = some 200 := len_of (t := 1) rfl
theorem e_73 (w : wo) {z : Int} (h0 : 0 ≤ z) (h1 : z < 200) : am_eI (wst w) 73 1 (ii z) = some (ii (wA w 73 z)) := eI_of (t := 1) (n := 200) rfl rfl rfl h0 h1 (by decide)
theorem t_73 (w : wo) {z : Int} {x : Int} (hx : x = 0 ∨ x = 1) (h0 : 0 ≤ z) (h1 : z < 200) : am_tB (wst w) 73 (ii z) (ii x) = some (wst (uA w 73 (fu (wA w 73) z x))) := tZ_of (n := 200) rfl hx h0 h1 (by decide)
theorem len_74 (w : wo) : am_len (wst w) 74 = some 6 := len_of (t := 0) rfl
theorem e_74 (w : wo) {z : Int} (h0 : 0 ≤ z) (h1 : z < 6) : am_eI (wst w) 74 0 (ii z) = some (ii (wA w 74 z)) := eI_of (t := 0) (n := 6) rfl rfl rfl h0 h1 (by decide)
theorem t_74 (w : wo) {z : Int} (x : Int) (h0 : 0 ≤ z) (h1 : z < 6) : am_tI (wst w) 74 (ii z) (ii x) = some (wst (uA w 74 (fu (wA w 74) z x))) := tI_of (n := 6) rfl h0 h1 (by decide)
theorem len_75 (w : wo) : am_len (wst w) 75 = some 10408 := len_of (t := 0) rfl
theorem e_75 (w : wo) {z : Int} (h0 : 0 ≤ z) (h1 : z < 10408) : am_eI (wst w) 75 0 (ii z) = some (ii (wA w 75 z)) := eI_of (t := 0) (n := 10408) rfl rfl rfl h0 h1 (by decide)
theorem t_75 (w : wo) {z : Int} (x : Int) (h0 : 0 ≤ z) (h1 : z < 10408) : am_tI (wst w) 75 (ii z) (ii x) = some (wst (uA w 75 (fu (wA w 75) z x))) := tI_of (n := 10408) rfl h0 h1 (by decide)
theorem len_76 (w : wo) : am_len (wst w) 76 = some 4 := len_of (t := 1) rfl
theorem e_76 (w : wo) {z : Int} (h0 : 0 ≤ z) (h1 : z < 4) : am_eI (wst w) 76 1 (ii z) = some (ii (wA w 76 z)) := eI_of (t := 1) (n := 4) rfl rfl rfl h0 h1 (by decide)
theorem t_76 (w : wo) {z : Int} {x : Int} (hx : x = 0 ∨ x = 1) (h0 : 0 ≤ z) (h1 : z < 4) : am_tB (wst w) 76 (ii z) (ii x) = some (wst (uA w 76 (fu (wA w 76) z x))) := tZ_of (n := 4) rfl hx h0 h1 (by decide)
