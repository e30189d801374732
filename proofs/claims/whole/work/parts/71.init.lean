/-! THE FIRST STATE -/
def iS1 : am_S := (am_w am_s0.1 0 (.inr (11, [am_R none, am_R none, am_R none, am_R none, am_R none, am_R none, am_R none, am_I 0, am_I 0, am_R none, am_R none, am_R none, am_R none, am_R none, am_R none, am_R none])), 1, 16)
def iS2 : am_S := (am_w iS1.1 1 (.inr (1, [am_R none, am_R none, am_R none, am_R none, am_R none, am_I 0])), 2, 22)
def iS3 : am_S := (am_w iS2.1 2 (.inl (0, 200, .inl (fun _ => 0))), 3, 222)
def iS4 : am_S := (am_w iS3.1 1 (.inr (1, [am_R (some 2), am_R none, am_R none, am_R none, am_R none, am_I 0])), 3, 222)
def iS5 : am_S := (am_w iS4.1 3 (.inl (0, 200, .inl (fun _ => 0))), 4, 422)
def iS6 : am_S := (am_w iS5.1 1 (.inr (1, [am_R (some 2), am_R (some 3), am_R none, am_R none, am_R none, am_I 0])), 4, 422)
def iS7 : am_S := (am_w iS6.1 4 (.inl (0, 200, .inl (fun _ => 0))), 5, 622)
def iS8 : am_S := (am_w iS7.1 1 (.inr (1, [am_R (some 2), am_R (some 3), am_R (some 4), am_R none, am_R none, am_I 0])), 5, 622)
def iS9 : am_S := (am_w iS8.1 5 (.inl (0, 200, .inl (fun _ => 0))), 6, 822)
def iS10 : am_S := (am_w iS9.1 1 (.inr (1, [am_R (some 2), am_R (some 3), am_R (some 4), am_R (some 5), am_R none, am_I 0])), 6, 822)
def iS11 : am_S := (am_w iS10.1 6 (.inl (0, 1200, .inl (fun _ => 0))), 7, 2022)
def iS12 : am_S := (am_w iS11.1 1 (.inr (1, [am_R (some 2), am_R (some 3), am_R (some 4), am_R (some 5), am_R (some 6), am_I 0])), 7, 2022)
def iS13 : am_S := (am_w iS12.1 0 (.inr (11, [am_R (some 1), am_R none, am_R none, am_R none, am_R none, am_R none, am_R none, am_I 0, am_I 0, am_R none, am_R none, am_R none, am_R none, am_R none, am_R none, am_R none])), 7, 2022)
def iS14 : am_S := (am_w iS13.1 7 (.inr (4, [am_R none, am_R none, am_R none, am_I 0])), 8, 2026)
def iS15 : am_S := (am_w iS14.1 8 (.inl (0, 200, .inl (fun _ => 0))), 9, 2226)
def iS16 : am_S := (am_w iS15.1 7 (.inr (4, [am_R (some 8), am_R none, am_R none, am_I 0])), 9, 2226)
def iS17 : am_S := (am_w iS16.1 9 (.inl (1, 200, .inl (fun _ => 0))), 10, 2426)
def iS18 : am_S := (am_w iS17.1 7 (.inr (4, [am_R (some 8), am_R (some 9), am_R none, am_I 0])), 10, 2426)
def iS19 : am_S := (am_w iS18.1 10 (.inl (1, 200, .inl (fun _ => 0))), 11, 2626)
def iS20 : am_S := (am_w iS19.1 7 (.inr (4, [am_R (some 8), am_R (some 9), am_R (some 10), am_I 0])), 11, 2626)
def iS21 : am_S := (am_w iS20.1 0 (.inr (11, [am_R (some 1), am_R (some 7), am_R none, am_R none, am_R none, am_R none, am_R none, am_I 0, am_I 0, am_R none, am_R none, am_R none, am_R none, am_R none, am_R none, am_R none])), 11, 2626)
def iS22 : am_S := (am_w iS21.1 11 (.inl (4, 4, .inr (.inr (fun _ => none)))), 12, 2630)
def iS23 : am_S := (am_w iS22.1 0 (.inr (11, [am_R (some 1), am_R (some 7), am_R (some 11), am_R none, am_R none, am_R none, am_R none, am_I 0, am_I 0, am_R none, am_R none, am_R none, am_R none, am_R none, am_R none, am_R none])), 12, 2630)
def iS24 : am_S := (am_w iS23.1 12 (.inl (5, 4, .inr (.inr (fun _ => none)))), 13, 2634)
def iS25 : am_S := (am_w iS24.1 0 (.inr (11, [am_R (some 1), am_R (some 7), am_R (some 11), am_R (some 12), am_R none, am_R none, am_R none, am_I 0, am_I 0, am_R none, am_R none, am_R none, am_R none, am_R none, am_R none, am_R none])), 13, 2634)
def iS26 : am_S := (am_w iS25.1 13 (.inr (6, [am_R none, am_I 0, am_R none, am_R none, am_R none, am_I 0, am_I 0, am_R none, am_I 0, am_I 0, am_I 0, am_R none, am_I 0, am_I 0])), 14, 2648)
def iS27 : am_S := (am_w iS26.1 14 (.inl (0, 400, .inl (fun _ => 0))), 15, 3048)
def iS28 : am_S := (am_w iS27.1 13 (.inr (6, [am_R (some 14), am_I 0, am_R none, am_R none, am_R none, am_I 0, am_I 0, am_R none, am_I 0, am_I 0, am_I 0, am_R none, am_I 0, am_I 0])), 15, 3048)
def iS29 : am_S := (am_w iS28.1 15 (.inl (0, 401, .inl (fun _ => 0))), 16, 3449)
def iS30 : am_S := (am_w iS29.1 13 (.inr (6, [am_R (some 14), am_I 0, am_R (some 15), am_R none, am_R none, am_I 0, am_I 0, am_R none, am_I 0, am_I 0, am_I 0, am_R none, am_I 0, am_I 0])), 16, 3449)
def iS31 : am_S := (am_w iS30.1 16 (.inl (0, 401, .inl (fun _ => 0))), 17, 3850)
def iS32 : am_S := (am_w iS31.1 13 (.inr (6, [am_R (some 14), am_I 0, am_R (some 15), am_R (some 16), am_R none, am_I 0, am_I 0, am_R none, am_I 0, am_I 0, am_I 0, am_R none, am_I 0, am_I 0])), 17, 3850)
def iS33 : am_S := (am_w iS32.1 17 (.inl (0, 401, .inl (fun _ => 0))), 18, 4251)
def iS34 : am_S := (am_w iS33.1 13 (.inr (6, [am_R (some 14), am_I 0, am_R (some 15), am_R (some 16), am_R (some 17), am_I 0, am_I 0, am_R none, am_I 0, am_I 0, am_I 0, am_R none, am_I 0, am_I 0])), 18, 4251)
def iS35 : am_S := (am_w iS34.1 18 (.inl (0, 400, .inl (fun _ => 0))), 19, 4651)
def iS36 : am_S := (am_w iS35.1 13 (.inr (6, [am_R (some 14), am_I 0, am_R (some 15), am_R (some 16), am_R (some 17), am_I 0, am_I 0, am_R (some 18), am_I 0, am_I 0, am_I 0, am_R none, am_I 0, am_I 0])), 19, 4651)
def iS37 : am_S := (am_w iS36.1 19 (.inl (0, 400, .inl (fun _ => 0))), 20, 5051)
def iS38 : am_S := (am_w iS37.1 13 (.inr (6, [am_R (some 14), am_I 0, am_R (some 15), am_R (some 16), am_R (some 17), am_I 0, am_I 0, am_R (some 18), am_I 0, am_I 0, am_I 0, am_R (some 19), am_I 0, am_I 0])), 20, 5051)
def iS39 : am_S := (am_w iS38.1 0 (.inr (11, [am_R (some 1), am_R (some 7), am_R (some 11), am_R (some 12), am_R (some 13), am_R none, am_R none, am_I 0, am_I 0, am_R none, am_R none, am_R none, am_R none, am_R none, am_R none, am_R none])), 20, 5051)
def iS40 : am_S := (am_w iS39.1 20 (.inl (6, 8, .inr (.inr (fun _ => none)))), 21, 5059)
def iS41 : am_S := (am_w iS40.1 0 (.inr (11, [am_R (some 1), am_R (some 7), am_R (some 11), am_R (some 12), am_R (some 13), am_R (some 20), am_R none, am_I 0, am_I 0, am_R none, am_R none, am_R none, am_R none, am_R none, am_R none, am_R none])), 21, 5059)
def iS42 : am_S := (am_w iS41.1 21 (.inl (7, 8, .inr (.inr (fun _ => none)))), 22, 5067)
def iS43 : am_S := (am_w iS42.1 0 (.inr (11, [am_R (some 1), am_R (some 7), am_R (some 11), am_R (some 12), am_R (some 13), am_R (some 20), am_R (some 21), am_I 0, am_I 0, am_R none, am_R none, am_R none, am_R none, am_R none, am_R none, am_R none])), 22, 5067)
def iS44 : am_S := (am_w iS43.1 22 (.inr (8, [am_R none, am_R none, am_R none, am_I 0, am_I 0, am_R none, am_R none, am_R none, am_I 0])), 23, 5076)
def iS45 : am_S := (am_w iS44.1 23 (.inl (0, 11, .inl (fun _ => 0))), 24, 5087)
def iS46 : am_S := (am_w iS45.1 22 (.inr (8, [am_R none, am_R (some 23), am_R none, am_I 0, am_I 0, am_R none, am_R none, am_R none, am_I 0])), 24, 5087)
def iS47 : am_S := (am_w iS46.1 24 (.inl (0, 200, .inl (fun _ => 0))), 25, 5287)
def iS48 : am_S := (am_w iS47.1 22 (.inr (8, [am_R none, am_R (some 23), am_R (some 24), am_I 0, am_I 0, am_R none, am_R none, am_R none, am_I 0])), 25, 5287)
def iS49 : am_S := (am_w iS48.1 25 (.inl (0, 200, .inl (fun _ => 0))), 26, 5487)
def iS50 : am_S := (am_w iS49.1 22 (.inr (8, [am_R none, am_R (some 23), am_R (some 24), am_I 0, am_I 0, am_R (some 25), am_R none, am_R none, am_I 0])), 26, 5487)
def iS51 : am_S := (am_w iS50.1 26 (.inl (0, 200, .inl (fun _ => 0))), 27, 5687)
def iS52 : am_S := (am_w iS51.1 22 (.inr (8, [am_R none, am_R (some 23), am_R (some 24), am_I 0, am_I 0, am_R (some 25), am_R (some 26), am_R none, am_I 0])), 27, 5687)
def iS53 : am_S := (am_w iS52.1 27 (.inl (0, 800, .inl (fun _ => 0))), 28, 6487)
def iS54 : am_S := (am_w iS53.1 22 (.inr (8, [am_R none, am_R (some 23), am_R (some 24), am_I 0, am_I 0, am_R (some 25), am_R (some 26), am_R (some 27), am_I 0])), 28, 6487)
def iS55 : am_S := (am_w iS54.1 22 (.inr (8, [am_R (some 1), am_R (some 23), am_R (some 24), am_I 0, am_I 0, am_R (some 25), am_R (some 26), am_R (some 27), am_I 0])), 28, 6487)
def iS56 : am_S := (am_w iS55.1 0 (.inr (11, [am_R (some 1), am_R (some 7), am_R (some 11), am_R (some 12), am_R (some 13), am_R (some 20), am_R (some 21), am_I 0, am_I 0, am_R (some 22), am_R none, am_R none, am_R none, am_R none, am_R none, am_R none])), 28, 6487)
def iS57 : am_S := (am_w iS56.1 28 (.inr (3, [am_L 0, am_L 0])), 29, 6489)
def iS58 : am_S := (am_w iS57.1 0 (.inr (11, [am_R (some 1), am_R (some 7), am_R (some 11), am_R (some 12), am_R (some 13), am_R (some 20), am_R (some 21), am_I 0, am_I 0, am_R (some 22), am_R (some 28), am_R none, am_R none, am_R none, am_R none, am_R none])), 29, 6489)
def iS59 : am_S := (am_w iS58.1 29 (.inr (5, [am_R none, am_R none, am_R none, am_R none, am_R none, am_R none, am_R none, am_R none, am_R none, am_I 0, am_I 0])), 30, 6500)
def iS60 : am_S := (am_w iS59.1 30 (.inl (0, 10, .inl (fun _ => 0))), 31, 6510)
def iS61 : am_S := (am_w iS60.1 29 (.inr (5, [am_R (some 30), am_R none, am_R none, am_R none, am_R none, am_R none, am_R none, am_R none, am_R none, am_I 0, am_I 0])), 31, 6510)
def iS62 : am_S := (am_w iS61.1 31 (.inl (0, 10, .inl (fun _ => 0))), 32, 6520)
def iS63 : am_S := (am_w iS62.1 29 (.inr (5, [am_R (some 30), am_R (some 31), am_R none, am_R none, am_R none, am_R none, am_R none, am_R none, am_R none, am_I 0, am_I 0])), 32, 6520)
def iS64 : am_S := (am_w iS63.1 32 (.inl (0, 121, .inl (fun _ => 0))), 33, 6641)
def iS65 : am_S := (am_w iS64.1 29 (.inr (5, [am_R (some 30), am_R (some 31), am_R (some 32), am_R none, am_R none, am_R none, am_R none, am_R none, am_R none, am_I 0, am_I 0])), 33, 6641)
def iS66 : am_S := (am_w iS65.1 33 (.inl (0, 11, .inl (fun _ => 0))), 34, 6652)
def iS67 : am_S := (am_w iS66.1 29 (.inr (5, [am_R (some 30), am_R (some 31), am_R (some 32), am_R (some 33), am_R none, am_R none, am_R none, am_R none, am_R none, am_I 0, am_I 0])), 34, 6652)
def iS68 : am_S := (am_w iS67.1 34 (.inl (0, 11, .inl (fun _ => 0))), 35, 6663)
def iS69 : am_S := (am_w iS68.1 29 (.inr (5, [am_R (some 30), am_R (some 31), am_R (some 32), am_R (some 33), am_R (some 34), am_R none, am_R none, am_R none, am_R none, am_I 0, am_I 0])), 35, 6663)
def iS70 : am_S := (am_w iS69.1 35 (.inl (0, 11, .inl (fun _ => 0))), 36, 6674)
def iS71 : am_S := (am_w iS70.1 29 (.inr (5, [am_R (some 30), am_R (some 31), am_R (some 32), am_R (some 33), am_R (some 34), am_R (some 35), am_R none, am_R none, am_R none, am_I 0, am_I 0])), 36, 6674)
def iS72 : am_S := (am_w iS71.1 36 (.inl (0, 11, .inl (fun _ => 0))), 37, 6685)
def iS73 : am_S := (am_w iS72.1 29 (.inr (5, [am_R (some 30), am_R (some 31), am_R (some 32), am_R (some 33), am_R (some 34), am_R (some 35), am_R (some 36), am_R none, am_R none, am_I 0, am_I 0])), 37, 6685)
def iS74 : am_S := (am_w iS73.1 37 (.inl (0, 11, .inl (fun _ => 0))), 38, 6696)
def iS75 : am_S := (am_w iS74.1 29 (.inr (5, [am_R (some 30), am_R (some 31), am_R (some 32), am_R (some 33), am_R (some 34), am_R (some 35), am_R (some 36), am_R (some 37), am_R none, am_I 0, am_I 0])), 38, 6696)
def iS76 : am_S := (am_w iS75.1 38 (.inl (1, 11, .inl (fun _ => 0))), 39, 6707)
def iS77 : am_S := (am_w iS76.1 29 (.inr (5, [am_R (some 30), am_R (some 31), am_R (some 32), am_R (some 33), am_R (some 34), am_R (some 35), am_R (some 36), am_R (some 37), am_R (some 38), am_I 0, am_I 0])), 39, 6707)
def iS78 : am_S := (am_w iS77.1 0 (.inr (11, [am_R (some 1), am_R (some 7), am_R (some 11), am_R (some 12), am_R (some 13), am_R (some 20), am_R (some 21), am_I 0, am_I 0, am_R (some 22), am_R (some 28), am_R (some 29), am_R none, am_R none, am_R none, am_R none])), 39, 6707)
def iS79 : am_S := (am_w iS78.1 39 (.inr (0, [am_R none, am_R none])), 40, 6709)
def iS80 : am_S := (am_w iS79.1 40 (.inl (0, 22, .inl (fun _ => 0))), 41, 6731)
def iS81 : am_S := (am_w iS80.1 39 (.inr (0, [am_R (some 40), am_R none])), 41, 6731)
def iS82 : am_S := (am_w iS81.1 41 (.inl (0, 22, .inl (fun _ => 0))), 42, 6753)
def iS83 : am_S := (am_w iS82.1 39 (.inr (0, [am_R (some 40), am_R (some 41)])), 42, 6753)
def iS84 : am_S := (am_w iS83.1 0 (.inr (11, [am_R (some 1), am_R (some 7), am_R (some 11), am_R (some 12), am_R (some 13), am_R (some 20), am_R (some 21), am_I 0, am_I 0, am_R (some 22), am_R (some 28), am_R (some 29), am_R (some 39), am_R none, am_R none, am_R none])), 42, 6753)
def iS85 : am_S := (am_w iS84.1 42 (.inr (7, [am_R none, am_R none, am_I 0, am_I 0, am_I 0, am_I 0])), 43, 6759)
def iS86 : am_S := (am_w iS85.1 43 (.inl (3, 444, .inr (.inl (fun _ => 0)))), 44, 7203)
def iS87 : am_S := (am_w iS86.1 42 (.inr (7, [am_R (some 43), am_R none, am_I 0, am_I 0, am_I 0, am_I 0])), 44, 7203)
def iS88 : am_S := (am_w iS87.1 44 (.inl (3, 4, .inr (.inl (fun _ => 0)))), 45, 7207)
def iS89 : am_S := (am_w iS88.1 42 (.inr (7, [am_R (some 43), am_R (some 44), am_I 0, am_I 0, am_I 0, am_I 0])), 45, 7207)
def iS90 : am_S := (am_w iS89.1 0 (.inr (11, [am_R (some 1), am_R (some 7), am_R (some 11), am_R (some 12), am_R (some 13), am_R (some 20), am_R (some 21), am_I 0, am_I 0, am_R (some 22), am_R (some 28), am_R (some 29), am_R (some 39), am_R (some 42), am_R none, am_R none])), 45, 7207)
def iS91 : am_S := (am_w iS90.1 45 (.inr (2, [am_I 0, am_I 0, am_I 0, am_I 0, am_I 0])), 46, 7212)
def iS92 : am_S := (am_w iS91.1 0 (.inr (11, [am_R (some 1), am_R (some 7), am_R (some 11), am_R (some 12), am_R (some 13), am_R (some 20), am_R (some 21), am_I 0, am_I 0, am_R (some 22), am_R (some 28), am_R (some 29), am_R (some 39), am_R (some 42), am_R (some 45), am_R none])), 46, 7212)
def iS93 : am_S := (am_w iS92.1 46 (.inl (0, 11, .inl (fun _ => 0))), 47, 7223)
def iS94 : am_S := (am_w iS93.1 0 (.inr (11, [am_R (some 1), am_R (some 7), am_R (some 11), am_R (some 12), am_R (some 13), am_R (some 20), am_R (some 21), am_I 0, am_I 0, am_R (some 22), am_R (some 28), am_R (some 29), am_R (some 39), am_R (some 42), am_R (some 45), am_R (some 46)])), 47, 7223)
def iS95 : am_S := (am_w iS94.1 47 (.inr (12, [am_I 0, am_R none, am_I 0, am_R none, am_R none, am_I 0, am_R none, am_R none, am_I 0, am_I 0, am_R none, am_R none, am_R none, am_R none, am_I 0, am_I 0, am_I 0, am_I 0, am_I 0, am_I 0, am_R none, am_I 0, am_R none, am_I 0, am_I 0, am_I 0, am_I 0, am_R none, am_R none, am_R none, am_L 0, am_L 0, am_R none, am_I 0, am_R none, am_R none, am_I 0, am_R none, am_R none, am_I 0, am_I 0, am_R none, am_I 0, am_I 0, am_I 0, am_R none, am_R none, am_R none, am_R none, am_R none, am_R none, am_I 0, am_I 0, am_I 0, am_R none, am_R none, am_R none])), 48, 7280)
def iS96 : am_S := (am_w iS95.1 48 (.inl (0, 2000, .inl (fun _ => 0))), 49, 9280)
def iS97 : am_S := (am_w iS96.1 47 (.inr (12, [am_I 0, am_R (some 48), am_I 0, am_R none, am_R none, am_I 0, am_R none, am_R none, am_I 0, am_I 0, am_R none, am_R none, am_R none, am_R none, am_I 0, am_I 0, am_I 0, am_I 0, am_I 0, am_I 0, am_R none, am_I 0, am_R none, am_I 0, am_I 0, am_I 0, am_I 0, am_R none, am_R none, am_R none, am_L 0, am_L 0, am_R none, am_I 0, am_R none, am_R none, am_I 0, am_R none, am_R none, am_I 0, am_I 0, am_R none, am_I 0, am_I 0, am_I 0, am_R none, am_R none, am_R none, am_R none, am_R none, am_R none, am_I 0, am_I 0, am_I 0, am_R none, am_R none, am_R none])), 49, 9280)
def iS98 : am_S := (am_w iS97.1 49 (.inl (0, 600, .inl (fun _ => 0))), 50, 9880)
def iS99 : am_S := (am_w iS98.1 47 (.inr (12, [am_I 0, am_R (some 48), am_I 0, am_R (some 49), am_R none, am_I 0, am_R none, am_R none, am_I 0, am_I 0, am_R none, am_R none, am_R none, am_R none, am_I 0, am_I 0, am_I 0, am_I 0, am_I 0, am_I 0, am_R none, am_I 0, am_R none, am_I 0, am_I 0, am_I 0, am_I 0, am_R none, am_R none, am_R none, am_L 0, am_L 0, am_R none, am_I 0, am_R none, am_R none, am_I 0, am_R none, am_R none, am_I 0, am_I 0, am_R none, am_I 0, am_I 0, am_I 0, am_R none, am_R none, am_R none, am_R none, am_R none, am_R none, am_I 0, am_I 0, am_I 0, am_R none, am_R none, am_R none])), 50, 9880)
def iS100 : am_S := (am_w iS99.1 50 (.inl (2, 400, .inl (fun _ => 0))), 51, 10280)
def iS101 : am_S := (am_w iS100.1 47 (.inr (12, [am_I 0, am_R (some 48), am_I 0, am_R (some 49), am_R (some 50), am_I 0, am_R none, am_R none, am_I 0, am_I 0, am_R none, am_R none, am_R none, am_R none, am_I 0, am_I 0, am_I 0, am_I 0, am_I 0, am_I 0, am_R none, am_I 0, am_R none, am_I 0, am_I 0, am_I 0, am_I 0, am_R none, am_R none, am_R none, am_L 0, am_L 0, am_R none, am_I 0, am_R none, am_R none, am_I 0, am_R none, am_R none, am_I 0, am_I 0, am_R none, am_I 0, am_I 0, am_I 0, am_R none, am_R none, am_R none, am_R none, am_R none, am_R none, am_I 0, am_I 0, am_I 0, am_R none, am_R none, am_R none])), 51, 10280)
def iS102 : am_S := (am_w iS101.1 51 (.inl (0, 6400, .inl (fun _ => 0))), 52, 16680)
def iS103 : am_S := (am_w iS102.1 47 (.inr (12, [am_I 0, am_R (some 48), am_I 0, am_R (some 49), am_R (some 50), am_I 0, am_R (some 51), am_R none, am_I 0, am_I 0, am_R none, am_R none, am_R none, am_R none, am_I 0, am_I 0, am_I 0, am_I 0, am_I 0, am_I 0, am_R none, am_I 0, am_R none, am_I 0, am_I 0, am_I 0, am_I 0, am_R none, am_R none, am_R none, am_L 0, am_L 0, am_R none, am_I 0, am_R none, am_R none, am_I 0, am_R none, am_R none, am_I 0, am_I 0, am_R none, am_I 0, am_I 0, am_I 0, am_R none, am_R none, am_R none, am_R none, am_R none, am_R none, am_I 0, am_I 0, am_I 0, am_R none, am_R none, am_R none])), 52, 16680)
def iS104 : am_S := (am_w iS103.1 52 (.inl (0, 16, .inl (fun _ => 0))), 53, 16696)
def iS105 : am_S := (am_w iS104.1 47 (.inr (12, [am_I 0, am_R (some 48), am_I 0, am_R (some 49), am_R (some 50), am_I 0, am_R (some 51), am_R (some 52), am_I 0, am_I 0, am_R none, am_R none, am_R none, am_R none, am_I 0, am_I 0, am_I 0, am_I 0, am_I 0, am_I 0, am_R none, am_I 0, am_R none, am_I 0, am_I 0, am_I 0, am_I 0, am_R none, am_R none, am_R none, am_L 0, am_L 0, am_R none, am_I 0, am_R none, am_R none, am_I 0, am_R none, am_R none, am_I 0, am_I 0, am_R none, am_I 0, am_I 0, am_I 0, am_R none, am_R none, am_R none, am_R none, am_R none, am_R none, am_I 0, am_I 0, am_I 0, am_R none, am_R none, am_R none])), 53, 16696)
def iS106 : am_S := (am_w iS105.1 53 (.inl (1, 8, .inl (fun _ => 0))), 54, 16704)
def iS107 : am_S := (am_w iS106.1 47 (.inr (12, [am_I 0, am_R (some 48), am_I 0, am_R (some 49), am_R (some 50), am_I 0, am_R (some 51), am_R (some 52), am_I 0, am_I 0, am_R (some 53), am_R none, am_R none, am_R none, am_I 0, am_I 0, am_I 0, am_I 0, am_I 0, am_I 0, am_R none, am_I 0, am_R none, am_I 0, am_I 0, am_I 0, am_I 0, am_R none, am_R none, am_R none, am_L 0, am_L 0, am_R none, am_I 0, am_R none, am_R none, am_I 0, am_R none, am_R none, am_I 0, am_I 0, am_R none, am_I 0, am_I 0, am_I 0, am_R none, am_R none, am_R none, am_R none, am_R none, am_R none, am_I 0, am_I 0, am_I 0, am_R none, am_R none, am_R none])), 54, 16704)
def iS108 : am_S := (am_w iS107.1 54 (.inl (0, 8, .inl (fun _ => 0))), 55, 16712)
def iS109 : am_S := (am_w iS108.1 47 (.inr (12, [am_I 0, am_R (some 48), am_I 0, am_R (some 49), am_R (some 50), am_I 0, am_R (some 51), am_R (some 52), am_I 0, am_I 0, am_R (some 53), am_R (some 54), am_R none, am_R none, am_I 0, am_I 0, am_I 0, am_I 0, am_I 0, am_I 0, am_R none, am_I 0, am_R none, am_I 0, am_I 0, am_I 0, am_I 0, am_R none, am_R none, am_R none, am_L 0, am_L 0, am_R none, am_I 0, am_R none, am_R none, am_I 0, am_R none, am_R none, am_I 0, am_I 0, am_R none, am_I 0, am_I 0, am_I 0, am_R none, am_R none, am_R none, am_R none, am_R none, am_R none, am_I 0, am_I 0, am_I 0, am_R none, am_R none, am_R none])), 55, 16712)
def iS110 : am_S := (am_w iS109.1 55 (.inl (0, 48, .inl (fun _ => 0))), 56, 16760)
def iS111 : am_S := (am_w iS110.1 47 (.inr (12, [am_I 0, am_R (some 48), am_I 0, am_R (some 49), am_R (some 50), am_I 0, am_R (some 51), am_R (some 52), am_I 0, am_I 0, am_R (some 53), am_R (some 54), am_R (some 55), am_R none, am_I 0, am_I 0, am_I 0, am_I 0, am_I 0, am_I 0, am_R none, am_I 0, am_R none, am_I 0, am_I 0, am_I 0, am_I 0, am_R none, am_R none, am_R none, am_L 0, am_L 0, am_R none, am_I 0, am_R none, am_R none, am_I 0, am_R none, am_R none, am_I 0, am_I 0, am_R none, am_I 0, am_I 0, am_I 0, am_R none, am_R none, am_R none, am_R none, am_R none, am_R none, am_I 0, am_I 0, am_I 0, am_R none, am_R none, am_R none])), 56, 16760)
def iS112 : am_S := (am_w iS111.1 56 (.inl (0, 8, .inl (fun _ => 0))), 57, 16768)
def iS113 : am_S := (am_w iS112.1 47 (.inr (12, [am_I 0, am_R (some 48), am_I 0, am_R (some 49), am_R (some 50), am_I 0, am_R (some 51), am_R (some 52), am_I 0, am_I 0, am_R (some 53), am_R (some 54), am_R (some 55), am_R (some 56), am_I 0, am_I 0, am_I 0, am_I 0, am_I 0, am_I 0, am_R none, am_I 0, am_R none, am_I 0, am_I 0, am_I 0, am_I 0, am_R none, am_R none, am_R none, am_L 0, am_L 0, am_R none, am_I 0, am_R none, am_R none, am_I 0, am_R none, am_R none, am_I 0, am_I 0, am_R none, am_I 0, am_I 0, am_I 0, am_R none, am_R none, am_R none, am_R none, am_R none, am_R none, am_I 0, am_I 0, am_I 0, am_R none, am_R none, am_R none])), 57, 16768)
def iS114 : am_S := (am_w iS113.1 57 (.inl (0, 400, .inl (fun _ => 0))), 58, 17168)
def iS115 : am_S := (am_w iS114.1 47 (.inr (12, [am_I 0, am_R (some 48), am_I 0, am_R (some 49), am_R (some 50), am_I 0, am_R (some 51), am_R (some 52), am_I 0, am_I 0, am_R (some 53), am_R (some 54), am_R (some 55), am_R (some 56), am_I 0, am_I 0, am_I 0, am_I 0, am_I 0, am_I 0, am_R (some 57), am_I 0, am_R none, am_I 0, am_I 0, am_I 0, am_I 0, am_R none, am_R none, am_R none, am_L 0, am_L 0, am_R none, am_I 0, am_R none, am_R none, am_I 0, am_R none, am_R none, am_I 0, am_I 0, am_R none, am_I 0, am_I 0, am_I 0, am_R none, am_R none, am_R none, am_R none, am_R none, am_R none, am_I 0, am_I 0, am_I 0, am_R none, am_R none, am_R none])), 58, 17168)
def iS116 : am_S := (am_w iS115.1 58 (.inl (0, 64, .inl (fun _ => 0))), 59, 17232)
def iS117 : am_S := (am_w iS116.1 47 (.inr (12, [am_I 0, am_R (some 48), am_I 0, am_R (some 49), am_R (some 50), am_I 0, am_R (some 51), am_R (some 52), am_I 0, am_I 0, am_R (some 53), am_R (some 54), am_R (some 55), am_R (some 56), am_I 0, am_I 0, am_I 0, am_I 0, am_I 0, am_I 0, am_R (some 57), am_I 0, am_R (some 58), am_I 0, am_I 0, am_I 0, am_I 0, am_R none, am_R none, am_R none, am_L 0, am_L 0, am_R none, am_I 0, am_R none, am_R none, am_I 0, am_R none, am_R none, am_I 0, am_I 0, am_R none, am_I 0, am_I 0, am_I 0, am_R none, am_R none, am_R none, am_R none, am_R none, am_R none, am_I 0, am_I 0, am_I 0, am_R none, am_R none, am_R none])), 59, 17232)
def iS118 : am_S := (am_w iS117.1 59 (.inl (0, 200, .inl (fun _ => 0))), 60, 17432)
def iS119 : am_S := (am_w iS118.1 47 (.inr (12, [am_I 0, am_R (some 48), am_I 0, am_R (some 49), am_R (some 50), am_I 0, am_R (some 51), am_R (some 52), am_I 0, am_I 0, am_R (some 53), am_R (some 54), am_R (some 55), am_R (some 56), am_I 0, am_I 0, am_I 0, am_I 0, am_I 0, am_I 0, am_R (some 57), am_I 0, am_R (some 58), am_I 0, am_I 0, am_I 0, am_I 0, am_R (some 59), am_R none, am_R none, am_L 0, am_L 0, am_R none, am_I 0, am_R none, am_R none, am_I 0, am_R none, am_R none, am_I 0, am_I 0, am_R none, am_I 0, am_I 0, am_I 0, am_R none, am_R none, am_R none, am_R none, am_R none, am_R none, am_I 0, am_I 0, am_I 0, am_R none, am_R none, am_R none])), 60, 17432)
def iS120 : am_S := (am_w iS119.1 60 (.inl (0, 2, .inl (fun _ => 0))), 61, 17434)
def iS121 : am_S := (am_w iS120.1 47 (.inr (12, [am_I 0, am_R (some 48), am_I 0, am_R (some 49), am_R (some 50), am_I 0, am_R (some 51), am_R (some 52), am_I 0, am_I 0, am_R (some 53), am_R (some 54), am_R (some 55), am_R (some 56), am_I 0, am_I 0, am_I 0, am_I 0, am_I 0, am_I 0, am_R (some 57), am_I 0, am_R (some 58), am_I 0, am_I 0, am_I 0, am_I 0, am_R (some 59), am_R (some 60), am_R none, am_L 0, am_L 0, am_R none, am_I 0, am_R none, am_R none, am_I 0, am_R none, am_R none, am_I 0, am_I 0, am_R none, am_I 0, am_I 0, am_I 0, am_R none, am_R none, am_R none, am_R none, am_R none, am_R none, am_I 0, am_I 0, am_I 0, am_R none, am_R none, am_R none])), 61, 17434)
def iS122 : am_S := (am_w iS121.1 61 (.inl (0, 2, .inl (fun _ => 0))), 62, 17436)
def iS123 : am_S := (am_w iS122.1 47 (.inr (12, [am_I 0, am_R (some 48), am_I 0, am_R (some 49), am_R (some 50), am_I 0, am_R (some 51), am_R (some 52), am_I 0, am_I 0, am_R (some 53), am_R (some 54), am_R (some 55), am_R (some 56), am_I 0, am_I 0, am_I 0, am_I 0, am_I 0, am_I 0, am_R (some 57), am_I 0, am_R (some 58), am_I 0, am_I 0, am_I 0, am_I 0, am_R (some 59), am_R (some 60), am_R (some 61), am_L 0, am_L 0, am_R none, am_I 0, am_R none, am_R none, am_I 0, am_R none, am_R none, am_I 0, am_I 0, am_R none, am_I 0, am_I 0, am_I 0, am_R none, am_R none, am_R none, am_R none, am_R none, am_R none, am_I 0, am_I 0, am_I 0, am_R none, am_R none, am_R none])), 62, 17436)
def iS124 : am_S := (am_w iS123.1 62 (.inl (3, 3721, .inr (.inl (fun _ => 0)))), 63, 21157)
def iS125 : am_S := (am_w iS124.1 47 (.inr (12, [am_I 0, am_R (some 48), am_I 0, am_R (some 49), am_R (some 50), am_I 0, am_R (some 51), am_R (some 52), am_I 0, am_I 0, am_R (some 53), am_R (some 54), am_R (some 55), am_R (some 56), am_I 0, am_I 0, am_I 0, am_I 0, am_I 0, am_I 0, am_R (some 57), am_I 0, am_R (some 58), am_I 0, am_I 0, am_I 0, am_I 0, am_R (some 59), am_R (some 60), am_R (some 61), am_L 0, am_L 0, am_R (some 62), am_I 0, am_R none, am_R none, am_I 0, am_R none, am_R none, am_I 0, am_I 0, am_R none, am_I 0, am_I 0, am_I 0, am_R none, am_R none, am_R none, am_R none, am_R none, am_R none, am_I 0, am_I 0, am_I 0, am_R none, am_R none, am_R none])), 63, 21157)
def iS126 : am_S := (am_w iS125.1 63 (.inl (0, 200, .inl (fun _ => 0))), 64, 21357)
def iS127 : am_S := (am_w iS126.1 47 (.inr (12, [am_I 0, am_R (some 48), am_I 0, am_R (some 49), am_R (some 50), am_I 0, am_R (some 51), am_R (some 52), am_I 0, am_I 0, am_R (some 53), am_R (some 54), am_R (some 55), am_R (some 56), am_I 0, am_I 0, am_I 0, am_I 0, am_I 0, am_I 0, am_R (some 57), am_I 0, am_R (some 58), am_I 0, am_I 0, am_I 0, am_I 0, am_R (some 59), am_R (some 60), am_R (some 61), am_L 0, am_L 0, am_R (some 62), am_I 0, am_R (some 63), am_R none, am_I 0, am_R none, am_R none, am_I 0, am_I 0, am_R none, am_I 0, am_I 0, am_I 0, am_R none, am_R none, am_R none, am_R none, am_R none, am_R none, am_I 0, am_I 0, am_I 0, am_R none, am_R none, am_R none])), 64, 21357)
def iS128 : am_S := (am_w iS127.1 64 (.inl (0, 800, .inl (fun _ => 0))), 65, 22157)
def iS129 : am_S := (am_w iS128.1 47 (.inr (12, [am_I 0, am_R (some 48), am_I 0, am_R (some 49), am_R (some 50), am_I 0, am_R (some 51), am_R (some 52), am_I 0, am_I 0, am_R (some 53), am_R (some 54), am_R (some 55), am_R (some 56), am_I 0, am_I 0, am_I 0, am_I 0, am_I 0, am_I 0, am_R (some 57), am_I 0, am_R (some 58), am_I 0, am_I 0, am_I 0, am_I 0, am_R (some 59), am_R (some 60), am_R (some 61), am_L 0, am_L 0, am_R (some 62), am_I 0, am_R (some 63), am_R (some 64), am_I 0, am_R none, am_R none, am_I 0, am_I 0, am_R none, am_I 0, am_I 0, am_I 0, am_R none, am_R none, am_R none, am_R none, am_R none, am_R none, am_I 0, am_I 0, am_I 0, am_R none, am_R none, am_R none])), 65, 22157)
def iS130 : am_S := (am_w iS129.1 47 (.inr (12, [am_I 0, am_R (some 48), am_I 0, am_R (some 49), am_R (some 50), am_I 0, am_R (some 51), am_R (some 52), am_I 0, am_I 0, am_R (some 53), am_R (some 54), am_R (some 55), am_R (some 56), am_I 0, am_I 0, am_I 0, am_I 0, am_I 0, am_I 0, am_R (some 57), am_I 0, am_R (some 58), am_I 0, am_I 0, am_I 0, am_I 0, am_R (some 59), am_R (some 60), am_R (some 61), am_L 0, am_L 0, am_R (some 62), am_I 0, am_R (some 63), am_R (some 64), am_I (-1), am_R none, am_R none, am_I 0, am_I 0, am_R none, am_I 0, am_I 0, am_I 0, am_R none, am_R none, am_R none, am_R none, am_R none, am_R none, am_I 0, am_I 0, am_I 0, am_R none, am_R none, am_R none])), 65, 22157)
def iS131 : am_S := (am_w iS130.1 65 (.inl (0, 10, .inl (fun _ => 0))), 66, 22167)
def iS132 : am_S := (am_w iS131.1 47 (.inr (12, [am_I 0, am_R (some 48), am_I 0, am_R (some 49), am_R (some 50), am_I 0, am_R (some 51), am_R (some 52), am_I 0, am_I 0, am_R (some 53), am_R (some 54), am_R (some 55), am_R (some 56), am_I 0, am_I 0, am_I 0, am_I 0, am_I 0, am_I 0, am_R (some 57), am_I 0, am_R (some 58), am_I 0, am_I 0, am_I 0, am_I 0, am_R (some 59), am_R (some 60), am_R (some 61), am_L 0, am_L 0, am_R (some 62), am_I 0, am_R (some 63), am_R (some 64), am_I (-1), am_R (some 65), am_R none, am_I 0, am_I 0, am_R none, am_I 0, am_I 0, am_I 0, am_R none, am_R none, am_R none, am_R none, am_R none, am_R none, am_I 0, am_I 0, am_I 0, am_R none, am_R none, am_R none])), 66, 22167)
def iS133 : am_S := (am_w iS132.1 66 (.inl (0, 10, .inl (fun _ => 0))), 67, 22177)
def iS134 : am_S := (am_w iS133.1 47 (.inr (12, [am_I 0, am_R (some 48), am_I 0, am_R (some 49), am_R (some 50), am_I 0, am_R (some 51), am_R (some 52), am_I 0, am_I 0, am_R (some 53), am_R (some 54), am_R (some 55), am_R (some 56), am_I 0, am_I 0, am_I 0, am_I 0, am_I 0, am_I 0, am_R (some 57), am_I 0, am_R (some 58), am_I 0, am_I 0, am_I 0, am_I 0, am_R (some 59), am_R (some 60), am_R (some 61), am_L 0, am_L 0, am_R (some 62), am_I 0, am_R (some 63), am_R (some 64), am_I (-1), am_R (some 65), am_R (some 66), am_I 0, am_I 0, am_R none, am_I 0, am_I 0, am_I 0, am_R none, am_R none, am_R none, am_R none, am_R none, am_R none, am_I 0, am_I 0, am_I 0, am_R none, am_R none, am_R none])), 67, 22177)
def iS135 : am_S := (am_w iS134.1 67 (.inl (0, 1024, .inl (fun _ => 0))), 68, 23201)
def iS136 : am_S := (am_w iS135.1 47 (.inr (12, [am_I 0, am_R (some 48), am_I 0, am_R (some 49), am_R (some 50), am_I 0, am_R (some 51), am_R (some 52), am_I 0, am_I 0, am_R (some 53), am_R (some 54), am_R (some 55), am_R (some 56), am_I 0, am_I 0, am_I 0, am_I 0, am_I 0, am_I 0, am_R (some 57), am_I 0, am_R (some 58), am_I 0, am_I 0, am_I 0, am_I 0, am_R (some 59), am_R (some 60), am_R (some 61), am_L 0, am_L 0, am_R (some 62), am_I 0, am_R (some 63), am_R (some 64), am_I (-1), am_R (some 65), am_R (some 66), am_I 0, am_I 0, am_R (some 67), am_I 0, am_I 0, am_I 0, am_R none, am_R none, am_R none, am_R none, am_R none, am_R none, am_I 0, am_I 0, am_I 0, am_R none, am_R none, am_R none])), 68, 23201)
def iS137 : am_S := (am_w iS136.1 68 (.inl (0, 2, .inl (fun _ => 0))), 69, 23203)
def iS138 : am_S := (am_w iS137.1 47 (.inr (12, [am_I 0, am_R (some 48), am_I 0, am_R (some 49), am_R (some 50), am_I 0, am_R (some 51), am_R (some 52), am_I 0, am_I 0, am_R (some 53), am_R (some 54), am_R (some 55), am_R (some 56), am_I 0, am_I 0, am_I 0, am_I 0, am_I 0, am_I 0, am_R (some 57), am_I 0, am_R (some 58), am_I 0, am_I 0, am_I 0, am_I 0, am_R (some 59), am_R (some 60), am_R (some 61), am_L 0, am_L 0, am_R (some 62), am_I 0, am_R (some 63), am_R (some 64), am_I (-1), am_R (some 65), am_R (some 66), am_I 0, am_I 0, am_R (some 67), am_I 0, am_I 0, am_I 0, am_R (some 68), am_R none, am_R none, am_R none, am_R none, am_R none, am_I 0, am_I 0, am_I 0, am_R none, am_R none, am_R none])), 69, 23203)
def iS139 : am_S := (am_w iS138.1 69 (.inl (0, 2, .inl (fun _ => 0))), 70, 23205)
def iS140 : am_S := (am_w iS139.1 47 (.inr (12, [am_I 0, am_R (some 48), am_I 0, am_R (some 49), am_R (some 50), am_I 0, am_R (some 51), am_R (some 52), am_I 0, am_I 0, am_R (some 53), am_R (some 54), am_R (some 55), am_R (some 56), am_I 0, am_I 0, am_I 0, am_I 0, am_I 0, am_I 0, am_R (some 57), am_I 0, am_R (some 58), am_I 0, am_I 0, am_I 0, am_I 0, am_R (some 59), am_R (some 60), am_R (some 61), am_L 0, am_L 0, am_R (some 62), am_I 0, am_R (some 63), am_R (some 64), am_I (-1), am_R (some 65), am_R (some 66), am_I 0, am_I 0, am_R (some 67), am_I 0, am_I 0, am_I 0, am_R (some 68), am_R (some 69), am_R none, am_R none, am_R none, am_R none, am_I 0, am_I 0, am_I 0, am_R none, am_R none, am_R none])), 70, 23205)
def iS141 : am_S := (am_w iS140.1 70 (.inl (0, 20, .inl (fun _ => 0))), 71, 23225)
def iS142 : am_S := (am_w iS141.1 47 (.inr (12, [am_I 0, am_R (some 48), am_I 0, am_R (some 49), am_R (some 50), am_I 0, am_R (some 51), am_R (some 52), am_I 0, am_I 0, am_R (some 53), am_R (some 54), am_R (some 55), am_R (some 56), am_I 0, am_I 0, am_I 0, am_I 0, am_I 0, am_I 0, am_R (some 57), am_I 0, am_R (some 58), am_I 0, am_I 0, am_I 0, am_I 0, am_R (some 59), am_R (some 60), am_R (some 61), am_L 0, am_L 0, am_R (some 62), am_I 0, am_R (some 63), am_R (some 64), am_I (-1), am_R (some 65), am_R (some 66), am_I 0, am_I 0, am_R (some 67), am_I 0, am_I 0, am_I 0, am_R (some 68), am_R (some 69), am_R (some 70), am_R none, am_R none, am_R none, am_I 0, am_I 0, am_I 0, am_R none, am_R none, am_R none])), 71, 23225)
def iS143 : am_S := (am_w iS142.1 71 (.inl (0, 10, .inl (fun _ => 0))), 72, 23235)
def iS144 : am_S := (am_w iS143.1 47 (.inr (12, [am_I 0, am_R (some 48), am_I 0, am_R (some 49), am_R (some 50), am_I 0, am_R (some 51), am_R (some 52), am_I 0, am_I 0, am_R (some 53), am_R (some 54), am_R (some 55), am_R (some 56), am_I 0, am_I 0, am_I 0, am_I 0, am_I 0, am_I 0, am_R (some 57), am_I 0, am_R (some 58), am_I 0, am_I 0, am_I 0, am_I 0, am_R (some 59), am_R (some 60), am_R (some 61), am_L 0, am_L 0, am_R (some 62), am_I 0, am_R (some 63), am_R (some 64), am_I (-1), am_R (some 65), am_R (some 66), am_I 0, am_I 0, am_R (some 67), am_I 0, am_I 0, am_I 0, am_R (some 68), am_R (some 69), am_R (some 70), am_R (some 71), am_R none, am_R none, am_I 0, am_I 0, am_I 0, am_R none, am_R none, am_R none])), 72, 23235)
def iS145 : am_S := (am_w iS144.1 72 (.inl (1, 200, .inl (fun _ => 0))), 73, 23435)
def iS146 : am_S := (am_w iS145.1 47 (.inr (12, [am_I 0, am_R (some 48), am_I 0, am_R (some 49), am_R (some 50), am_I 0, am_R (some 51), am_R (some 52), am_I 0, am_I 0, am_R (some 53), am_R (some 54), am_R (some 55), am_R (some 56), am_I 0, am_I 0, am_I 0, am_I 0, am_I 0, am_I 0, am_R (some 57), am_I 0, am_R (some 58), am_I 0, am_I 0, am_I 0, am_I 0, am_R (some 59), am_R (some 60), am_R (some 61), am_L 0, am_L 0, am_R (some 62), am_I 0, am_R (some 63), am_R (some 64), am_I (-1), am_R (some 65), am_R (some 66), am_I 0, am_I 0, am_R (some 67), am_I 0, am_I 0, am_I 0, am_R (some 68), am_R (some 69), am_R (some 70), am_R (some 71), am_R (some 72), am_R none, am_I 0, am_I 0, am_I 0, am_R none, am_R none, am_R none])), 73, 23435)
def iS147 : am_S := (am_w iS146.1 73 (.inl (1, 200, .inl (fun _ => 0))), 74, 23635)
def iS148 : am_S := (am_w iS147.1 47 (.inr (12, [am_I 0, am_R (some 48), am_I 0, am_R (some 49), am_R (some 50), am_I 0, am_R (some 51), am_R (some 52), am_I 0, am_I 0, am_R (some 53), am_R (some 54), am_R (some 55), am_R (some 56), am_I 0, am_I 0, am_I 0, am_I 0, am_I 0, am_I 0, am_R (some 57), am_I 0, am_R (some 58), am_I 0, am_I 0, am_I 0, am_I 0, am_R (some 59), am_R (some 60), am_R (some 61), am_L 0, am_L 0, am_R (some 62), am_I 0, am_R (some 63), am_R (some 64), am_I (-1), am_R (some 65), am_R (some 66), am_I 0, am_I 0, am_R (some 67), am_I 0, am_I 0, am_I 0, am_R (some 68), am_R (some 69), am_R (some 70), am_R (some 71), am_R (some 72), am_R (some 73), am_I 0, am_I 0, am_I 0, am_R none, am_R none, am_R none])), 74, 23635)
def iS149 : am_S := (am_w iS148.1 74 (.inl (0, 6, .inl (fun _ => 0))), 75, 23641)
def iS150 : am_S := (am_w iS149.1 47 (.inr (12, [am_I 0, am_R (some 48), am_I 0, am_R (some 49), am_R (some 50), am_I 0, am_R (some 51), am_R (some 52), am_I 0, am_I 0, am_R (some 53), am_R (some 54), am_R (some 55), am_R (some 56), am_I 0, am_I 0, am_I 0, am_I 0, am_I 0, am_I 0, am_R (some 57), am_I 0, am_R (some 58), am_I 0, am_I 0, am_I 0, am_I 0, am_R (some 59), am_R (some 60), am_R (some 61), am_L 0, am_L 0, am_R (some 62), am_I 0, am_R (some 63), am_R (some 64), am_I (-1), am_R (some 65), am_R (some 66), am_I 0, am_I 0, am_R (some 67), am_I 0, am_I 0, am_I 0, am_R (some 68), am_R (some 69), am_R (some 70), am_R (some 71), am_R (some 72), am_R (some 73), am_I 0, am_I 0, am_I 0, am_R (some 74), am_R none, am_R none])), 75, 23641)
def iS151 : am_S := (am_w iS150.1 75 (.inl (0, 10408, .inl (fun _ => 0))), 76, 34049)
def iS152 : am_S := (am_w iS151.1 47 (.inr (12, [am_I 0, am_R (some 48), am_I 0, am_R (some 49), am_R (some 50), am_I 0, am_R (some 51), am_R (some 52), am_I 0, am_I 0, am_R (some 53), am_R (some 54), am_R (some 55), am_R (some 56), am_I 0, am_I 0, am_I 0, am_I 0, am_I 0, am_I 0, am_R (some 57), am_I 0, am_R (some 58), am_I 0, am_I 0, am_I 0, am_I 0, am_R (some 59), am_R (some 60), am_R (some 61), am_L 0, am_L 0, am_R (some 62), am_I 0, am_R (some 63), am_R (some 64), am_I (-1), am_R (some 65), am_R (some 66), am_I 0, am_I 0, am_R (some 67), am_I 0, am_I 0, am_I 0, am_R (some 68), am_R (some 69), am_R (some 70), am_R (some 71), am_R (some 72), am_R (some 73), am_I 0, am_I 0, am_I 0, am_R (some 74), am_R (some 75), am_R none])), 76, 34049)
def iS153 : am_S := (am_w iS152.1 76 (.inl (1, 4, .inl (fun _ => 0))), 77, 34053)
def iS154 : am_S := (am_w iS153.1 47 (.inr (12, [am_I 0, am_R (some 48), am_I 0, am_R (some 49), am_R (some 50), am_I 0, am_R (some 51), am_R (some 52), am_I 0, am_I 0, am_R (some 53), am_R (some 54), am_R (some 55), am_R (some 56), am_I 0, am_I 0, am_I 0, am_I 0, am_I 0, am_I 0, am_R (some 57), am_I 0, am_R (some 58), am_I 0, am_I 0, am_I 0, am_I 0, am_R (some 59), am_R (some 60), am_R (some 61), am_L 0, am_L 0, am_R (some 62), am_I 0, am_R (some 63), am_R (some 64), am_I (-1), am_R (some 65), am_R (some 66), am_I 0, am_I 0, am_R (some 67), am_I 0, am_I 0, am_I 0, am_R (some 68), am_R (some 69), am_R (some 70), am_R (some 71), am_R (some 72), am_R (some 73), am_I 0, am_I 0, am_I 0, am_R (some 74), am_R (some 75), am_R (some 76)])), 77, 34053)
theorem nwA_s (s : am_S) {t n : Nat} (hn : n ≤ 60000) : am_nwA s t (ii n) = some (s.2.1, am_al s (.inl (t, n, bif Nat.blt t 3 then .inl (fun _ => 0) else bif Nat.beq t 3 then .inr (.inl (fun _ => 0)) else .inr (.inr (fun _ => none)))) n) := by
  have hz := ii_nat (z := (n : Int)) (by omega) (by omega)
  unfold am_nwA
  rw [show (n : Int).toNat = n from rfl] at hz
  rw [if_neg (ii_pos (by omega) (by omega)), hz, if_pos hn]
theorem ia1 : am_al am_s0 (.inr (11, am_dfs.getD 11 [])) (am_dfs.getD 11 []).length = iS1 := rfl
theorem in1 : iS1.2.1 = 1 := rfl
theorem im1 : am_s0.2.1 = 0 := rfl
theorem ia2 : am_al iS1 (.inr (1, am_dfs.getD 1 [])) (am_dfs.getD 1 []).length = iS2 := rfl
theorem in2 : iS2.2.1 = 2 := rfl
theorem im2 : iS1.2.1 = 1 := rfl
theorem iw3 : am_nwA iS2 0 200 = some (2, iS3) := (nwA_s iS2 (t := 0) (n := 200) (by decide)).trans rfl
theorem ip4 : am_pf iS3 1 1 0 (am_R (some 2)) = some iS4 := rfl
theorem iw5 : am_nwA iS4 0 200 = some (3, iS5) := (nwA_s iS4 (t := 0) (n := 200) (by decide)).trans rfl
theorem ip6 : am_pf iS5 1 1 1 (am_R (some 3)) = some iS6 := rfl
theorem iw7 : am_nwA iS6 0 200 = some (4, iS7) := (nwA_s iS6 (t := 0) (n := 200) (by decide)).trans rfl
theorem ip8 : am_pf iS7 1 1 2 (am_R (some 4)) = some iS8 := rfl
theorem iw9 : am_nwA iS8 0 200 = some (5, iS9) := (nwA_s iS8 (t := 0) (n := 200) (by decide)).trans rfl
theorem ip10 : am_pf iS9 1 1 3 (am_R (some 5)) = some iS10 := rfl
theorem iw11 : am_nwA iS10 0 1200 = some (6, iS11) := (nwA_s iS10 (t := 0) (n := 1200) (by decide)).trans rfl
theorem ip12 : am_pf iS11 1 1 4 (am_R (some 6)) = some iS12 := rfl
theorem ip13 : am_pf iS12 0 11 0 (am_R (some 1)) = some iS13 := rfl
theorem ia14 : am_al iS13 (.inr (4, am_dfs.getD 4 [])) (am_dfs.getD 4 []).length = iS14 := rfl
theorem in14 : iS14.2.1 = 8 := rfl
theorem im14 : iS13.2.1 = 7 := rfl
theorem iw15 : am_nwA iS14 0 200 = some (8, iS15) := (nwA_s iS14 (t := 0) (n := 200) (by decide)).trans rfl
theorem ip16 : am_pf iS15 7 4 0 (am_R (some 8)) = some iS16 := rfl
theorem iw17 : am_nwA iS16 1 200 = some (9, iS17) := (nwA_s iS16 (t := 1) (n := 200) (by decide)).trans rfl
theorem ip18 : am_pf iS17 7 4 1 (am_R (some 9)) = some iS18 := rfl
theorem iw19 : am_nwA iS18 1 200 = some (10, iS19) := (nwA_s iS18 (t := 1) (n := 200) (by decide)).trans rfl
theorem ip20 : am_pf iS19 7 4 2 (am_R (some 10)) = some iS20 := rfl
theorem ip21 : am_pf iS20 0 11 1 (am_R (some 7)) = some iS21 := rfl
theorem iw22 : am_nwA iS21 4 4 = some (11, iS22) := (nwA_s iS21 (t := 4) (n := 4) (by decide)).trans rfl
theorem ip23 : am_pf iS22 0 11 2 (am_R (some 11)) = some iS23 := rfl
theorem iw24 : am_nwA iS23 5 4 = some (12, iS24) := (nwA_s iS23 (t := 5) (n := 4) (by decide)).trans rfl
theorem ip25 : am_pf iS24 0 11 3 (am_R (some 12)) = some iS25 := rfl
theorem ia26 : am_al iS25 (.inr (6, am_dfs.getD 6 [])) (am_dfs.getD 6 []).length = iS26 := rfl
theorem in26 : iS26.2.1 = 14 := rfl
theorem im26 : iS25.2.1 = 13 := rfl
theorem iw27 : am_nwA iS26 0 400 = some (14, iS27) := (nwA_s iS26 (t := 0) (n := 400) (by decide)).trans rfl
theorem ip28 : am_pf iS27 13 6 0 (am_R (some 14)) = some iS28 := rfl
theorem iw29 : am_nwA iS28 0 401 = some (15, iS29) := (nwA_s iS28 (t := 0) (n := 401) (by decide)).trans rfl
theorem ip30 : am_pf iS29 13 6 2 (am_R (some 15)) = some iS30 := rfl
theorem iw31 : am_nwA iS30 0 401 = some (16, iS31) := (nwA_s iS30 (t := 0) (n := 401) (by decide)).trans rfl
theorem ip32 : am_pf iS31 13 6 3 (am_R (some 16)) = some iS32 := rfl
theorem iw33 : am_nwA iS32 0 401 = some (17, iS33) := (nwA_s iS32 (t := 0) (n := 401) (by decide)).trans rfl
theorem ip34 : am_pf iS33 13 6 4 (am_R (some 17)) = some iS34 := rfl
theorem iw35 : am_nwA iS34 0 400 = some (18, iS35) := (nwA_s iS34 (t := 0) (n := 400) (by decide)).trans rfl
theorem ip36 : am_pf iS35 13 6 7 (am_R (some 18)) = some iS36 := rfl
theorem iw37 : am_nwA iS36 0 400 = some (19, iS37) := (nwA_s iS36 (t := 0) (n := 400) (by decide)).trans rfl
theorem ip38 : am_pf iS37 13 6 11 (am_R (some 19)) = some iS38 := rfl
theorem ip39 : am_pf iS38 0 11 4 (am_R (some 13)) = some iS39 := rfl
theorem iw40 : am_nwA iS39 6 8 = some (20, iS40) := (nwA_s iS39 (t := 6) (n := 8) (by decide)).trans rfl
theorem ip41 : am_pf iS40 0 11 5 (am_R (some 20)) = some iS41 := rfl
theorem iw42 : am_nwA iS41 7 8 = some (21, iS42) := (nwA_s iS41 (t := 7) (n := 8) (by decide)).trans rfl
theorem ip43 : am_pf iS42 0 11 6 (am_R (some 21)) = some iS43 := rfl
theorem ia44 : am_al iS43 (.inr (8, am_dfs.getD 8 [])) (am_dfs.getD 8 []).length = iS44 := rfl
theorem in44 : iS44.2.1 = 23 := rfl
theorem im44 : iS43.2.1 = 22 := rfl
theorem ig0 : am_gR iS44 0 11 0 = some (some 1) := rfl
theorem iw45 : am_nwA iS44 0 11 = some (23, iS45) := (nwA_s iS44 (t := 0) (n := 11) (by decide)).trans rfl
theorem ip46 : am_pf iS45 22 8 1 (am_R (some 23)) = some iS46 := rfl
theorem iw47 : am_nwA iS46 0 200 = some (24, iS47) := (nwA_s iS46 (t := 0) (n := 200) (by decide)).trans rfl
theorem ip48 : am_pf iS47 22 8 2 (am_R (some 24)) = some iS48 := rfl
theorem iw49 : am_nwA iS48 0 200 = some (25, iS49) := (nwA_s iS48 (t := 0) (n := 200) (by decide)).trans rfl
theorem ip50 : am_pf iS49 22 8 5 (am_R (some 25)) = some iS50 := rfl
theorem iw51 : am_nwA iS50 0 200 = some (26, iS51) := (nwA_s iS50 (t := 0) (n := 200) (by decide)).trans rfl
theorem ip52 : am_pf iS51 22 8 6 (am_R (some 26)) = some iS52 := rfl
theorem iw53 : am_nwA iS52 0 800 = some (27, iS53) := (nwA_s iS52 (t := 0) (n := 800) (by decide)).trans rfl
theorem ip54 : am_pf iS53 22 8 7 (am_R (some 27)) = some iS54 := rfl
theorem ip55 : am_pf iS54 22 8 0 (am_R (some 1)) = some iS55 := rfl
theorem ip56 : am_pf iS55 0 11 9 (am_R (some 22)) = some iS56 := rfl
theorem ia57 : am_al iS56 (.inr (3, am_dfs.getD 3 [])) (am_dfs.getD 3 []).length = iS57 := rfl
theorem in57 : iS57.2.1 = 29 := rfl
theorem im57 : iS56.2.1 = 28 := rfl
theorem ip58 : am_pf iS57 0 11 10 (am_R (some 28)) = some iS58 := rfl
theorem ia59 : am_al iS58 (.inr (5, am_dfs.getD 5 [])) (am_dfs.getD 5 []).length = iS59 := rfl
theorem in59 : iS59.2.1 = 30 := rfl
theorem im59 : iS58.2.1 = 29 := rfl
theorem iw60 : am_nwA iS59 0 10 = some (30, iS60) := (nwA_s iS59 (t := 0) (n := 10) (by decide)).trans rfl
theorem ip61 : am_pf iS60 29 5 0 (am_R (some 30)) = some iS61 := rfl
theorem iw62 : am_nwA iS61 0 10 = some (31, iS62) := (nwA_s iS61 (t := 0) (n := 10) (by decide)).trans rfl
theorem ip63 : am_pf iS62 29 5 1 (am_R (some 31)) = some iS63 := rfl
theorem iw64 : am_nwA iS63 0 121 = some (32, iS64) := (nwA_s iS63 (t := 0) (n := 121) (by decide)).trans rfl
theorem ip65 : am_pf iS64 29 5 2 (am_R (some 32)) = some iS65 := rfl
theorem iw66 : am_nwA iS65 0 11 = some (33, iS66) := (nwA_s iS65 (t := 0) (n := 11) (by decide)).trans rfl
theorem ip67 : am_pf iS66 29 5 3 (am_R (some 33)) = some iS67 := rfl
theorem iw68 : am_nwA iS67 0 11 = some (34, iS68) := (nwA_s iS67 (t := 0) (n := 11) (by decide)).trans rfl
theorem ip69 : am_pf iS68 29 5 4 (am_R (some 34)) = some iS69 := rfl
theorem iw70 : am_nwA iS69 0 11 = some (35, iS70) := (nwA_s iS69 (t := 0) (n := 11) (by decide)).trans rfl
theorem ip71 : am_pf iS70 29 5 5 (am_R (some 35)) = some iS71 := rfl
theorem iw72 : am_nwA iS71 0 11 = some (36, iS72) := (nwA_s iS71 (t := 0) (n := 11) (by decide)).trans rfl
theorem ip73 : am_pf iS72 29 5 6 (am_R (some 36)) = some iS73 := rfl
theorem iw74 : am_nwA iS73 0 11 = some (37, iS74) := (nwA_s iS73 (t := 0) (n := 11) (by decide)).trans rfl
theorem ip75 : am_pf iS74 29 5 7 (am_R (some 37)) = some iS75 := rfl
theorem iw76 : am_nwA iS75 1 11 = some (38, iS76) := (nwA_s iS75 (t := 1) (n := 11) (by decide)).trans rfl
theorem ip77 : am_pf iS76 29 5 8 (am_R (some 38)) = some iS77 := rfl
theorem ip78 : am_pf iS77 0 11 11 (am_R (some 29)) = some iS78 := rfl
theorem ia79 : am_al iS78 (.inr (0, am_dfs.getD 0 [])) (am_dfs.getD 0 []).length = iS79 := rfl
theorem in79 : iS79.2.1 = 40 := rfl
theorem im79 : iS78.2.1 = 39 := rfl
theorem iw80 : am_nwA iS79 0 22 = some (40, iS80) := (nwA_s iS79 (t := 0) (n := 22) (by decide)).trans rfl
theorem ip81 : am_pf iS80 39 0 0 (am_R (some 40)) = some iS81 := rfl
theorem iw82 : am_nwA iS81 0 22 = some (41, iS82) := (nwA_s iS81 (t := 0) (n := 22) (by decide)).trans rfl
theorem ip83 : am_pf iS82 39 0 1 (am_R (some 41)) = some iS83 := rfl
theorem ip84 : am_pf iS83 0 11 12 (am_R (some 39)) = some iS84 := rfl
theorem ia85 : am_al iS84 (.inr (7, am_dfs.getD 7 [])) (am_dfs.getD 7 []).length = iS85 := rfl
theorem in85 : iS85.2.1 = 43 := rfl
theorem im85 : iS84.2.1 = 42 := rfl
theorem iw86 : am_nwA iS85 3 444 = some (43, iS86) := (nwA_s iS85 (t := 3) (n := 444) (by decide)).trans rfl
theorem ip87 : am_pf iS86 42 7 0 (am_R (some 43)) = some iS87 := rfl
theorem iw88 : am_nwA iS87 3 4 = some (44, iS88) := (nwA_s iS87 (t := 3) (n := 4) (by decide)).trans rfl
theorem ip89 : am_pf iS88 42 7 1 (am_R (some 44)) = some iS89 := rfl
theorem ip90 : am_pf iS89 0 11 13 (am_R (some 42)) = some iS90 := rfl
theorem ia91 : am_al iS90 (.inr (2, am_dfs.getD 2 [])) (am_dfs.getD 2 []).length = iS91 := rfl
theorem in91 : iS91.2.1 = 46 := rfl
theorem im91 : iS90.2.1 = 45 := rfl
theorem ip92 : am_pf iS91 0 11 14 (am_R (some 45)) = some iS92 := rfl
theorem iw93 : am_nwA iS92 0 11 = some (46, iS93) := (nwA_s iS92 (t := 0) (n := 11) (by decide)).trans rfl
theorem ip94 : am_pf iS93 0 11 15 (am_R (some 46)) = some iS94 := rfl
theorem ia95 : am_al iS94 (.inr (12, am_dfs.getD 12 [])) (am_dfs.getD 12 []).length = iS95 := rfl
theorem in95 : iS95.2.1 = 48 := rfl
theorem im95 : iS94.2.1 = 47 := rfl
theorem iw96 : am_nwA iS95 0 2000 = some (48, iS96) := (nwA_s iS95 (t := 0) (n := 2000) (by decide)).trans rfl
theorem ip97 : am_pf iS96 47 12 1 (am_R (some 48)) = some iS97 := rfl
theorem iw98 : am_nwA iS97 0 600 = some (49, iS98) := (nwA_s iS97 (t := 0) (n := 600) (by decide)).trans rfl
theorem ip99 : am_pf iS98 47 12 3 (am_R (some 49)) = some iS99 := rfl
theorem iw100 : am_nwA iS99 2 400 = some (50, iS100) := (nwA_s iS99 (t := 2) (n := 400) (by decide)).trans rfl
theorem ip101 : am_pf iS100 47 12 4 (am_R (some 50)) = some iS101 := rfl
theorem iw102 : am_nwA iS101 0 6400 = some (51, iS102) := (nwA_s iS101 (t := 0) (n := 6400) (by decide)).trans rfl
theorem ip103 : am_pf iS102 47 12 6 (am_R (some 51)) = some iS103 := rfl
theorem iw104 : am_nwA iS103 0 16 = some (52, iS104) := (nwA_s iS103 (t := 0) (n := 16) (by decide)).trans rfl
theorem ip105 : am_pf iS104 47 12 7 (am_R (some 52)) = some iS105 := rfl
theorem iw106 : am_nwA iS105 1 8 = some (53, iS106) := (nwA_s iS105 (t := 1) (n := 8) (by decide)).trans rfl
theorem ip107 : am_pf iS106 47 12 10 (am_R (some 53)) = some iS107 := rfl
theorem iw108 : am_nwA iS107 0 8 = some (54, iS108) := (nwA_s iS107 (t := 0) (n := 8) (by decide)).trans rfl
theorem ip109 : am_pf iS108 47 12 11 (am_R (some 54)) = some iS109 := rfl
theorem iw110 : am_nwA iS109 0 48 = some (55, iS110) := (nwA_s iS109 (t := 0) (n := 48) (by decide)).trans rfl
theorem ip111 : am_pf iS110 47 12 12 (am_R (some 55)) = some iS111 := rfl
theorem iw112 : am_nwA iS111 0 8 = some (56, iS112) := (nwA_s iS111 (t := 0) (n := 8) (by decide)).trans rfl
theorem ip113 : am_pf iS112 47 12 13 (am_R (some 56)) = some iS113 := rfl
theorem iw114 : am_nwA iS113 0 400 = some (57, iS114) := (nwA_s iS113 (t := 0) (n := 400) (by decide)).trans rfl
theorem ip115 : am_pf iS114 47 12 20 (am_R (some 57)) = some iS115 := rfl
theorem iw116 : am_nwA iS115 0 64 = some (58, iS116) := (nwA_s iS115 (t := 0) (n := 64) (by decide)).trans rfl
theorem ip117 : am_pf iS116 47 12 22 (am_R (some 58)) = some iS117 := rfl
theorem iw118 : am_nwA iS117 0 200 = some (59, iS118) := (nwA_s iS117 (t := 0) (n := 200) (by decide)).trans rfl
theorem ip119 : am_pf iS118 47 12 27 (am_R (some 59)) = some iS119 := rfl
theorem iw120 : am_nwA iS119 0 2 = some (60, iS120) := (nwA_s iS119 (t := 0) (n := 2) (by decide)).trans rfl
theorem ip121 : am_pf iS120 47 12 28 (am_R (some 60)) = some iS121 := rfl
theorem iw122 : am_nwA iS121 0 2 = some (61, iS122) := (nwA_s iS121 (t := 0) (n := 2) (by decide)).trans rfl
theorem ip123 : am_pf iS122 47 12 29 (am_R (some 61)) = some iS123 := rfl
theorem iw124 : am_nwA iS123 3 3721 = some (62, iS124) := (nwA_s iS123 (t := 3) (n := 3721) (by decide)).trans rfl
theorem ip125 : am_pf iS124 47 12 32 (am_R (some 62)) = some iS125 := rfl
theorem iw126 : am_nwA iS125 0 200 = some (63, iS126) := (nwA_s iS125 (t := 0) (n := 200) (by decide)).trans rfl
theorem ip127 : am_pf iS126 47 12 34 (am_R (some 63)) = some iS127 := rfl
theorem iw128 : am_nwA iS127 0 800 = some (64, iS128) := (nwA_s iS127 (t := 0) (n := 800) (by decide)).trans rfl
theorem ip129 : am_pf iS128 47 12 35 (am_R (some 64)) = some iS129 := rfl
theorem ip130 : am_pf iS129 47 12 36 (am_I (-1)) = some iS130 := rfl
theorem iw131 : am_nwA iS130 0 10 = some (65, iS131) := (nwA_s iS130 (t := 0) (n := 10) (by decide)).trans rfl
theorem ip132 : am_pf iS131 47 12 37 (am_R (some 65)) = some iS132 := rfl
theorem iw133 : am_nwA iS132 0 10 = some (66, iS133) := (nwA_s iS132 (t := 0) (n := 10) (by decide)).trans rfl
theorem ip134 : am_pf iS133 47 12 38 (am_R (some 66)) = some iS134 := rfl
theorem iw135 : am_nwA iS134 0 1024 = some (67, iS135) := (nwA_s iS134 (t := 0) (n := 1024) (by decide)).trans rfl
theorem ip136 : am_pf iS135 47 12 41 (am_R (some 67)) = some iS136 := rfl
theorem iw137 : am_nwA iS136 0 2 = some (68, iS137) := (nwA_s iS136 (t := 0) (n := 2) (by decide)).trans rfl
theorem ip138 : am_pf iS137 47 12 45 (am_R (some 68)) = some iS138 := rfl
theorem iw139 : am_nwA iS138 0 2 = some (69, iS139) := (nwA_s iS138 (t := 0) (n := 2) (by decide)).trans rfl
theorem ip140 : am_pf iS139 47 12 46 (am_R (some 69)) = some iS140 := rfl
theorem iw141 : am_nwA iS140 0 20 = some (70, iS141) := (nwA_s iS140 (t := 0) (n := 20) (by decide)).trans rfl
theorem ip142 : am_pf iS141 47 12 47 (am_R (some 70)) = some iS142 := rfl
theorem iw143 : am_nwA iS142 0 10 = some (71, iS143) := (nwA_s iS142 (t := 0) (n := 10) (by decide)).trans rfl
theorem ip144 : am_pf iS143 47 12 48 (am_R (some 71)) = some iS144 := rfl
theorem iw145 : am_nwA iS144 1 200 = some (72, iS145) := (nwA_s iS144 (t := 1) (n := 200) (by decide)).trans rfl
theorem ip146 : am_pf iS145 47 12 49 (am_R (some 72)) = some iS146 := rfl
theorem iw147 : am_nwA iS146 1 200 = some (73, iS147) := (nwA_s iS146 (t := 1) (n := 200) (by decide)).trans rfl
theorem ip148 : am_pf iS147 47 12 50 (am_R (some 73)) = some iS148 := rfl
theorem iw149 : am_nwA iS148 0 6 = some (74, iS149) := (nwA_s iS148 (t := 0) (n := 6) (by decide)).trans rfl
theorem ip150 : am_pf iS149 47 12 54 (am_R (some 74)) = some iS150 := rfl
theorem iw151 : am_nwA iS150 0 10408 = some (75, iS151) := (nwA_s iS150 (t := 0) (n := 10408) (by decide)).trans rfl
theorem ip152 : am_pf iS151 47 12 55 (am_R (some 75)) = some iS152 := rfl
theorem iw153 : am_nwA iS152 1 4 = some (76, iS153) := (nwA_s iS152 (t := 1) (n := 4) (by decide)).trans rfl
theorem ip154 : am_pf iS153 47 12 56 (am_R (some 76)) = some iS154 := rfl
theorem iF0g (sc : am_X) {s2 s3 s4 s5 s6 s7 s8 s9 s10 s11 s12 : am_S} (hw3 : am_nwA s2 0 200 = some (2, s3)) (hp4 : am_pf s3 1 1 0 (am_R (some 2)) = some s4) (hw5 : am_nwA s4 0 200 = some (3, s5)) (hp6 : am_pf s5 1 1 1 (am_R (some 3)) = some s6) (hw7 : am_nwA s6 0 200 = some (4, s7)) (hp8 : am_pf s7 1 1 2 (am_R (some 4)) = some s8) (hw9 : am_nwA s8 0 200 = some (5, s9)) (hp10 : am_pf s9 1 1 3 (am_R (some 5)) = some s10) (hw11 : am_nwA s10 0 1200 = some (6, s11)) (hp12 : am_pf s11 1 1 4 (am_R (some 6)) = some s12) : am_F sc 0 [am_R (some 1)] s2 = some (none, s12) := by
  rw [fq_0]
  refine (congrArg (fun z => qB z _ _) hw3).trans ?_
  refine (qB_s _ _ _).trans ?_
  refine (congrArg (fun z => qB z _ _) hp4).trans ?_
  refine (qB_s _ _ _).trans ?_
  refine (congrArg (fun z => qB z _ _) hw5).trans ?_
  refine (qB_s _ _ _).trans ?_
  refine (congrArg (fun z => qB z _ _) hp6).trans ?_
  refine (qB_s _ _ _).trans ?_
  refine (congrArg (fun z => qB z _ _) hw7).trans ?_
  refine (qB_s _ _ _).trans ?_
  refine (congrArg (fun z => qB z _ _) hp8).trans ?_
  refine (qB_s _ _ _).trans ?_
  refine (congrArg (fun z => qB z _ _) hw9).trans ?_
  refine (qB_s _ _ _).trans ?_
  refine (congrArg (fun z => qB z _ _) hp10).trans ?_
  refine (qB_s _ _ _).trans ?_
  refine (congrArg (fun z => qB z _ _) hw11).trans ?_
  refine (qB_s _ _ _).trans ?_
  refine (congrArg (fun z => qB z _ _) hp12).trans ?_
  refine (qB_s _ _ _).trans ?_
  rfl
theorem iF0 (sc : am_X) : am_F sc 0 [am_R (some 1)] iS2 = some (none, iS12) := iF0g sc iw3 ip4 iw5 ip6 iw7 ip8 iw9 ip10 iw11 ip12
theorem iF1g (sc : am_X) {s14 s15 s16 s17 s18 s19 s20 : am_S} (hw15 : am_nwA s14 0 200 = some (8, s15)) (hp16 : am_pf s15 7 4 0 (am_R (some 8)) = some s16) (hw17 : am_nwA s16 1 200 = some (9, s17)) (hp18 : am_pf s17 7 4 1 (am_R (some 9)) = some s18) (hw19 : am_nwA s18 1 200 = some (10, s19)) (hp20 : am_pf s19 7 4 2 (am_R (some 10)) = some s20) : am_F sc 1 [am_R (some 7)] s14 = some (none, s20) := by
  rw [fq_1]
  refine (congrArg (fun z => qB z _ _) hw15).trans ?_
  refine (qB_s _ _ _).trans ?_
  refine (congrArg (fun z => qB z _ _) hp16).trans ?_
  refine (qB_s _ _ _).trans ?_
  refine (congrArg (fun z => qB z _ _) hw17).trans ?_
  refine (qB_s _ _ _).trans ?_
  refine (congrArg (fun z => qB z _ _) hp18).trans ?_
  refine (qB_s _ _ _).trans ?_
  refine (congrArg (fun z => qB z _ _) hw19).trans ?_
  refine (qB_s _ _ _).trans ?_
  refine (congrArg (fun z => qB z _ _) hp20).trans ?_
  refine (qB_s _ _ _).trans ?_
  rfl
theorem iF1 (sc : am_X) : am_F sc 1 [am_R (some 7)] iS14 = some (none, iS20) := iF1g sc iw15 ip16 iw17 ip18 iw19 ip20
theorem iF2g (sc : am_X) {s26 s27 s28 s29 s30 s31 s32 s33 s34 s35 s36 s37 s38 : am_S} (hw27 : am_nwA s26 0 400 = some (14, s27)) (hp28 : am_pf s27 13 6 0 (am_R (some 14)) = some s28) (hw29 : am_nwA s28 0 401 = some (15, s29)) (hp30 : am_pf s29 13 6 2 (am_R (some 15)) = some s30) (hw31 : am_nwA s30 0 401 = some (16, s31)) (hp32 : am_pf s31 13 6 3 (am_R (some 16)) = some s32) (hw33 : am_nwA s32 0 401 = some (17, s33)) (hp34 : am_pf s33 13 6 4 (am_R (some 17)) = some s34) (hw35 : am_nwA s34 0 400 = some (18, s35)) (hp36 : am_pf s35 13 6 7 (am_R (some 18)) = some s36) (hw37 : am_nwA s36 0 400 = some (19, s37)) (hp38 : am_pf s37 13 6 11 (am_R (some 19)) = some s38) : am_F sc 2 [am_R (some 13)] s26 = some (none, s38) := by
  rw [fq_2]
  refine (congrArg (fun z => qB z _ _) hw27).trans ?_
  refine (qB_s _ _ _).trans ?_
  refine (congrArg (fun z => qB z _ _) hp28).trans ?_
  refine (qB_s _ _ _).trans ?_
  refine (congrArg (fun z => qB z _ _) hw29).trans ?_
  refine (qB_s _ _ _).trans ?_
  refine (congrArg (fun z => qB z _ _) hp30).trans ?_
  refine (qB_s _ _ _).trans ?_
  refine (congrArg (fun z => qB z _ _) hw31).trans ?_
  refine (qB_s _ _ _).trans ?_
  refine (congrArg (fun z => qB z _ _) hp32).trans ?_
  refine (qB_s _ _ _).trans ?_
  refine (congrArg (fun z => qB z _ _) hw33).trans ?_
  refine (qB_s _ _ _).trans ?_
  refine (congrArg (fun z => qB z _ _) hp34).trans ?_
  refine (qB_s _ _ _).trans ?_
  refine (congrArg (fun z => qB z _ _) hw35).trans ?_
  refine (qB_s _ _ _).trans ?_
  refine (congrArg (fun z => qB z _ _) hp36).trans ?_
  refine (qB_s _ _ _).trans ?_
  refine (congrArg (fun z => qB z _ _) hw37).trans ?_
  refine (qB_s _ _ _).trans ?_
  refine (congrArg (fun z => qB z _ _) hp38).trans ?_
  refine (qB_s _ _ _).trans ?_
  rfl
theorem iF2 (sc : am_X) : am_F sc 2 [am_R (some 13)] iS26 = some (none, iS38) := iF2g sc iw27 ip28 iw29 ip30 iw31 ip32 iw33 ip34 iw35 ip36 iw37 ip38
theorem iF3g (sc : am_X) {s44 s45 s46 s47 s48 s49 s50 s51 s52 s53 s54 s55 : am_S} (hw45 : am_nwA s44 0 11 = some (23, s45)) (hp46 : am_pf s45 22 8 1 (am_R (some 23)) = some s46) (hw47 : am_nwA s46 0 200 = some (24, s47)) (hp48 : am_pf s47 22 8 2 (am_R (some 24)) = some s48) (hw49 : am_nwA s48 0 200 = some (25, s49)) (hp50 : am_pf s49 22 8 5 (am_R (some 25)) = some s50) (hw51 : am_nwA s50 0 200 = some (26, s51)) (hp52 : am_pf s51 22 8 6 (am_R (some 26)) = some s52) (hw53 : am_nwA s52 0 800 = some (27, s53)) (hp54 : am_pf s53 22 8 7 (am_R (some 27)) = some s54) (hp55 : am_pf s54 22 8 0 (am_R (some 1)) = some s55) : am_F sc 3 [am_R (some 22), am_R (some 1)] s44 = some (none, s55) := by
  rw [fq_3]
  refine (congrArg (fun z => qB z _ _) hw45).trans ?_
  refine (qB_s _ _ _).trans ?_
  refine (congrArg (fun z => qB z _ _) hp46).trans ?_
  refine (qB_s _ _ _).trans ?_
  refine (congrArg (fun z => qB z _ _) hw47).trans ?_
  refine (qB_s _ _ _).trans ?_
  refine (congrArg (fun z => qB z _ _) hp48).trans ?_
  refine (qB_s _ _ _).trans ?_
  refine (congrArg (fun z => qB z _ _) hw49).trans ?_
  refine (qB_s _ _ _).trans ?_
  refine (congrArg (fun z => qB z _ _) hp50).trans ?_
  refine (qB_s _ _ _).trans ?_
  refine (congrArg (fun z => qB z _ _) hw51).trans ?_
  refine (qB_s _ _ _).trans ?_
  refine (congrArg (fun z => qB z _ _) hp52).trans ?_
  refine (qB_s _ _ _).trans ?_
  refine (congrArg (fun z => qB z _ _) hw53).trans ?_
  refine (qB_s _ _ _).trans ?_
  refine (congrArg (fun z => qB z _ _) hp54).trans ?_
  refine (qB_s _ _ _).trans ?_
  refine (congrArg (fun z => qB z _ _) hp55).trans ?_
  refine (qB_s _ _ _).trans ?_
  rfl
theorem iF3 (sc : am_X) : am_F sc 3 [am_R (some 22), am_R (some 1)] iS44 = some (none, iS55) := iF3g sc iw45 ip46 iw47 ip48 iw49 ip50 iw51 ip52 iw53 ip54 ip55
theorem iF4g (sc : am_X) {s57 : am_S}  : am_F sc 4 [am_R (some 28)] s57 = some (none, s57) := by
  rw [fq_4]

theorem iF4 (sc : am_X) : am_F sc 4 [am_R (some 28)] iS57 = some (none, iS57) := iF4g sc 
theorem iF5g (sc : am_X) {s59 s60 s61 s62 s63 s64 s65 s66 s67 s68 s69 s70 s71 s72 s73 s74 s75 s76 s77 : am_S} (hw60 : am_nwA s59 0 10 = some (30, s60)) (hp61 : am_pf s60 29 5 0 (am_R (some 30)) = some s61) (hw62 : am_nwA s61 0 10 = some (31, s62)) (hp63 : am_pf s62 29 5 1 (am_R (some 31)) = some s63) (hw64 : am_nwA s63 0 121 = some (32, s64)) (hp65 : am_pf s64 29 5 2 (am_R (some 32)) = some s65) (hw66 : am_nwA s65 0 11 = some (33, s66)) (hp67 : am_pf s66 29 5 3 (am_R (some 33)) = some s67) (hw68 : am_nwA s67 0 11 = some (34, s68)) (hp69 : am_pf s68 29 5 4 (am_R (some 34)) = some s69) (hw70 : am_nwA s69 0 11 = some (35, s70)) (hp71 : am_pf s70 29 5 5 (am_R (some 35)) = some s71) (hw72 : am_nwA s71 0 11 = some (36, s72)) (hp73 : am_pf s72 29 5 6 (am_R (some 36)) = some s73) (hw74 : am_nwA s73 0 11 = some (37, s74)) (hp75 : am_pf s74 29 5 7 (am_R (some 37)) = some s75) (hw76 : am_nwA s75 1 11 = some (38, s76)) (hp77 : am_pf s76 29 5 8 (am_R (some 38)) = some s77) : am_F sc 5 [am_R (some 29)] s59 = some (none, s77) := by
  rw [fq_5]
  refine (congrArg (fun z => qB z _ _) hw60).trans ?_
  refine (qB_s _ _ _).trans ?_
  refine (congrArg (fun z => qB z _ _) hp61).trans ?_
  refine (qB_s _ _ _).trans ?_
  refine (congrArg (fun z => qB z _ _) hw62).trans ?_
  refine (qB_s _ _ _).trans ?_
  refine (congrArg (fun z => qB z _ _) hp63).trans ?_
  refine (qB_s _ _ _).trans ?_
  refine (congrArg (fun z => qB z _ _) hw64).trans ?_
  refine (qB_s _ _ _).trans ?_
  refine (congrArg (fun z => qB z _ _) hp65).trans ?_
  refine (qB_s _ _ _).trans ?_
  refine (congrArg (fun z => qB z _ _) hw66).trans ?_
  refine (qB_s _ _ _).trans ?_
  refine (congrArg (fun z => qB z _ _) hp67).trans ?_
  refine (qB_s _ _ _).trans ?_
  refine (congrArg (fun z => qB z _ _) hw68).trans ?_
  refine (qB_s _ _ _).trans ?_
  refine (congrArg (fun z => qB z _ _) hp69).trans ?_
  refine (qB_s _ _ _).trans ?_
  refine (congrArg (fun z => qB z _ _) hw70).trans ?_
  refine (qB_s _ _ _).trans ?_
  refine (congrArg (fun z => qB z _ _) hp71).trans ?_
  refine (qB_s _ _ _).trans ?_
  refine (congrArg (fun z => qB z _ _) hw72).trans ?_
  refine (qB_s _ _ _).trans ?_
  refine (congrArg (fun z => qB z _ _) hp73).trans ?_
  refine (qB_s _ _ _).trans ?_
  refine (congrArg (fun z => qB z _ _) hw74).trans ?_
  refine (qB_s _ _ _).trans ?_
  refine (congrArg (fun z => qB z _ _) hp75).trans ?_
  refine (qB_s _ _ _).trans ?_
  refine (congrArg (fun z => qB z _ _) hw76).trans ?_
  refine (qB_s _ _ _).trans ?_
  refine (congrArg (fun z => qB z _ _) hp77).trans ?_
  refine (qB_s _ _ _).trans ?_
  rfl
theorem iF5 (sc : am_X) : am_F sc 5 [am_R (some 29)] iS59 = some (none, iS77) := iF5g sc iw60 ip61 iw62 ip63 iw64 ip65 iw66 ip67 iw68 ip69 iw70 ip71 iw72 ip73 iw74 ip75 iw76 ip77
theorem iF6g (sc : am_X) {s79 s80 s81 s82 s83 : am_S} (hw80 : am_nwA s79 0 22 = some (40, s80)) (hp81 : am_pf s80 39 0 0 (am_R (some 40)) = some s81) (hw82 : am_nwA s81 0 22 = some (41, s82)) (hp83 : am_pf s82 39 0 1 (am_R (some 41)) = some s83) : am_F sc 6 [am_R (some 39)] s79 = some (none, s83) := by
  rw [fq_6]
  refine (congrArg (fun z => qB z _ _) hw80).trans ?_
  refine (qB_s _ _ _).trans ?_
  refine (congrArg (fun z => qB z _ _) hp81).trans ?_
  refine (qB_s _ _ _).trans ?_
  refine (congrArg (fun z => qB z _ _) hw82).trans ?_
  refine (qB_s _ _ _).trans ?_
  refine (congrArg (fun z => qB z _ _) hp83).trans ?_
  refine (qB_s _ _ _).trans ?_
  rfl
theorem iF6 (sc : am_X) : am_F sc 6 [am_R (some 39)] iS79 = some (none, iS83) := iF6g sc iw80 ip81 iw82 ip83
theorem iF7g (sc : am_X) {s85 s86 s87 s88 s89 : am_S} (hw86 : am_nwA s85 3 444 = some (43, s86)) (hp87 : am_pf s86 42 7 0 (am_R (some 43)) = some s87) (hw88 : am_nwA s87 3 4 = some (44, s88)) (hp89 : am_pf s88 42 7 1 (am_R (some 44)) = some s89) : am_F sc 7 [am_R (some 42)] s85 = some (none, s89) := by
  rw [fq_7]
  refine (congrArg (fun z => qB z _ _) hw86).trans ?_
  refine (qB_s _ _ _).trans ?_
  refine (congrArg (fun z => qB z _ _) hp87).trans ?_
  refine (qB_s _ _ _).trans ?_
  refine (congrArg (fun z => qB z _ _) hw88).trans ?_
  refine (qB_s _ _ _).trans ?_
  refine (congrArg (fun z => qB z _ _) hp89).trans ?_
  refine (qB_s _ _ _).trans ?_
  rfl
theorem iF7 (sc : am_X) : am_F sc 7 [am_R (some 42)] iS85 = some (none, iS89) := iF7g sc iw86 ip87 iw88 ip89
theorem iF8g (sc : am_X) {s91 : am_S}  : am_F sc 8 [am_R (some 45)] s91 = some (none, s91) := by
  rw [fq_8]

theorem iF8 (sc : am_X) : am_F sc 8 [am_R (some 45)] iS91 = some (none, iS91) := iF8g sc 
theorem iF10g (sc : am_X) {s95 s96 s97 s98 s99 s100 s101 s102 s103 s104 s105 s106 s107 s108 s109 s110 s111 s112 s113 s114 s115 s116 s117 s118 s119 s120 s121 s122 s123 s124 s125 s126 s127 s128 s129 s130 s131 s132 s133 s134 s135 s136 s137 s138 s139 s140 s141 s142 s143 s144 s145 s146 s147 s148 s149 s150 s151 s152 s153 s154 : am_S} (hw96 : am_nwA s95 0 2000 = some (48, s96)) (hp97 : am_pf s96 47 12 1 (am_R (some 48)) = some s97) (hw98 : am_nwA s97 0 600 = some (49, s98)) (hp99 : am_pf s98 47 12 3 (am_R (some 49)) = some s99) (hw100 : am_nwA s99 2 400 = some (50, s100)) (hp101 : am_pf s100 47 12 4 (am_R (some 50)) = some s101) (hw102 : am_nwA s101 0 6400 = some (51, s102)) (hp103 : am_pf s102 47 12 6 (am_R (some 51)) = some s103) (hw104 : am_nwA s103 0 16 = some (52, s104)) (hp105 : am_pf s104 47 12 7 (am_R (some 52)) = some s105) (hw106 : am_nwA s105 1 8 = some (53, s106)) (hp107 : am_pf s106 47 12 10 (am_R (some 53)) = some s107) (hw108 : am_nwA s107 0 8 = some (54, s108)) (hp109 : am_pf s108 47 12 11 (am_R (some 54)) = some s109) (hw110 : am_nwA s109 0 48 = some (55, s110)) (hp111 : am_pf s110 47 12 12 (am_R (some 55)) = some s111) (hw112 : am_nwA s111 0 8 = some (56, s112)) (hp113 : am_pf s112 47 12 13 (am_R (some 56)) = some s113) (hw114 : am_nwA s113 0 400 = some (57, s114)) (hp115 : am_pf s114 47 12 20 (am_R (some 57)) = some s115) (hw116 : am_nwA s115 0 64 = some (58, s116)) (hp117 : am_pf s116 47 12 22 (am_R (some 58)) = some s117) (hw118 : am_nwA s117 0 200 = some (59, s118)) (hp119 : am_pf s118 47 12 27 (am_R (some 59)) = some s119) (hw120 : am_nwA s119 0 2 = some (60, s120)) (hp121 : am_pf s120 47 12 28 (am_R (some 60)) = some s121) (hw122 : am_nwA s121 0 2 = some (61, s122)) (hp123 : am_pf s122 47 12 29 (am_R (some 61)) = some s123) (hw124 : am_nwA s123 3 3721 = some (62, s124)) (hp125 : am_pf s124 47 12 32 (am_R (some 62)) = some s125) (hw126 : am_nwA s125 0 200 = some (63, s126)) (hp127 : am_pf s126 47 12 34 (am_R (some 63)) = some s127) (hw128 : am_nwA s127 0 800 = some (64, s128)) (hp129 : am_pf s128 47 12 35 (am_R (some 64)) = some s129) (hp130 : am_pf s129 47 12 36 (am_I (-1)) = some s130) (hw131 : am_nwA s130 0 10 = some (65, s131)) (hp132 : am_pf s131 47 12 37 (am_R (some 65)) = some s132) (hw133 : am_nwA s132 0 10 = some (66, s133)) (hp134 : am_pf s133 47 12 38 (am_R (some 66)) = some s134) (hw135 : am_nwA s134 0 1024 = some (67, s135)) (hp136 : am_pf s135 47 12 41 (am_R (some 67)) = some s136) (hw137 : am_nwA s136 0 2 = some (68, s137)) (hp138 : am_pf s137 47 12 45 (am_R (some 68)) = some s138) (hw139 : am_nwA s138 0 2 = some (69, s139)) (hp140 : am_pf s139 47 12 46 (am_R (some 69)) = some s140) (hw141 : am_nwA s140 0 20 = some (70, s141)) (hp142 : am_pf s141 47 12 47 (am_R (some 70)) = some s142) (hw143 : am_nwA s142 0 10 = some (71, s143)) (hp144 : am_pf s143 47 12 48 (am_R (some 71)) = some s144) (hw145 : am_nwA s144 1 200 = some (72, s145)) (hp146 : am_pf s145 47 12 49 (am_R (some 72)) = some s146) (hw147 : am_nwA s146 1 200 = some (73, s147)) (hp148 : am_pf s147 47 12 50 (am_R (some 73)) = some s148) (hw149 : am_nwA s148 0 6 = some (74, s149)) (hp150 : am_pf s149 47 12 54 (am_R (some 74)) = some s150) (hw151 : am_nwA s150 0 10408 = some (75, s151)) (hp152 : am_pf s151 47 12 55 (am_R (some 75)) = some s152) (hw153 : am_nwA s152 1 4 = some (76, s153)) (hp154 : am_pf s153 47 12 56 (am_R (some 76)) = some s154) : am_F sc 10 [am_R (some 47)] s95 = some (none, s154) := by
  rw [fq_10]
  refine (congrArg (fun z => qB z _ _) hw96).trans ?_
  refine (qB_s _ _ _).trans ?_
  refine (congrArg (fun z => qB z _ _) hp97).trans ?_
  refine (qB_s _ _ _).trans ?_
  refine (congrArg (fun z => qB z _ _) hw98).trans ?_
  refine (qB_s _ _ _).trans ?_
  refine (congrArg (fun z => qB z _ _) hp99).trans ?_
  refine (qB_s _ _ _).trans ?_
  refine (congrArg (fun z => qB z _ _) hw100).trans ?_
  refine (qB_s _ _ _).trans ?_
  refine (congrArg (fun z => qB z _ _) hp101).trans ?_
  refine (qB_s _ _ _).trans ?_
  refine (congrArg (fun z => qB z _ _) hw102).trans ?_
  refine (qB_s _ _ _).trans ?_
  refine (congrArg (fun z => qB z _ _) hp103).trans ?_
  refine (qB_s _ _ _).trans ?_
  refine (congrArg (fun z => qB z _ _) hw104).trans ?_
  refine (qB_s _ _ _).trans ?_
  refine (congrArg (fun z => qB z _ _) hp105).trans ?_
  refine (qB_s _ _ _).trans ?_
  refine (congrArg (fun z => qB z _ _) hw106).trans ?_
  refine (qB_s _ _ _).trans ?_
  refine (congrArg (fun z => qB z _ _) hp107).trans ?_
  refine (qB_s _ _ _).trans ?_
  refine (congrArg (fun z => qB z _ _) hw108).trans ?_
  refine (qB_s _ _ _).trans ?_
  refine (congrArg (fun z => qB z _ _) hp109).trans ?_
  refine (qB_s _ _ _).trans ?_
  refine (congrArg (fun z => qB z _ _) hw110).trans ?_
  refine (qB_s _ _ _).trans ?_
  refine (congrArg (fun z => qB z _ _) hp111).trans ?_
  refine (qB_s _ _ _).trans ?_
  refine (congrArg (fun z => qB z _ _) hw112).trans ?_
  refine (qB_s _ _ _).trans ?_
  refine (congrArg (fun z => qB z _ _) hp113).trans ?_
  refine (qB_s _ _ _).trans ?_
  refine (congrArg (fun z => qB z _ _) hw114).trans ?_
  refine (qB_s _ _ _).trans ?_
  refine (congrArg (fun z => qB z _ _) hp115).trans ?_
  refine (qB_s _ _ _).trans ?_
  refine (congrArg (fun z => qB z _ _) hw116).trans ?_
  refine (qB_s _ _ _).trans ?_
  refine (congrArg (fun z => qB z _ _) hp117).trans ?_
  refine (qB_s _ _ _).trans ?_
  refine (congrArg (fun z => qB z _ _) hw118).trans ?_
  refine (qB_s _ _ _).trans ?_
  refine (congrArg (fun z => qB z _ _) hp119).trans ?_
  refine (qB_s _ _ _).trans ?_
  refine (congrArg (fun z => qB z _ _) hw120).trans ?_
  refine (qB_s _ _ _).trans ?_
  refine (congrArg (fun z => qB z _ _) hp121).trans ?_
  refine (qB_s _ _ _).trans ?_
  refine (congrArg (fun z => qB z _ _) hw122).trans ?_
  refine (qB_s _ _ _).trans ?_
  refine (congrArg (fun z => qB z _ _) hp123).trans ?_
  refine (qB_s _ _ _).trans ?_
  refine (congrArg (fun z => qB z _ _) hw124).trans ?_
  refine (qB_s _ _ _).trans ?_
  refine (congrArg (fun z => qB z _ _) hp125).trans ?_
  refine (qB_s _ _ _).trans ?_
  refine (congrArg (fun z => qB z _ _) hw126).trans ?_
  refine (qB_s _ _ _).trans ?_
  refine (congrArg (fun z => qB z _ _) hp127).trans ?_
  refine (qB_s _ _ _).trans ?_
  refine (congrArg (fun z => qB z _ _) hw128).trans ?_
  refine (qB_s _ _ _).trans ?_
  refine (congrArg (fun z => qB z _ _) hp129).trans ?_
  refine (qB_s _ _ _).trans ?_
  refine (congrArg (fun z => qB z _ _) hp130).trans ?_
  refine (qB_s _ _ _).trans ?_
  refine (congrArg (fun z => qB z _ _) hw131).trans ?_
  refine (qB_s _ _ _).trans ?_
  refine (congrArg (fun z => qB z _ _) hp132).trans ?_
  refine (qB_s _ _ _).trans ?_
  refine (congrArg (fun z => qB z _ _) hw133).trans ?_
  refine (qB_s _ _ _).trans ?_
  refine (congrArg (fun z => qB z _ _) hp134).trans ?_
  refine (qB_s _ _ _).trans ?_
  refine (congrArg (fun z => qB z _ _) hw135).trans ?_
  refine (qB_s _ _ _).trans ?_
  refine (congrArg (fun z => qB z _ _) hp136).trans ?_
  refine (qB_s _ _ _).trans ?_
  refine (congrArg (fun z => qB z _ _) hw137).trans ?_
  refine (qB_s _ _ _).trans ?_
  refine (congrArg (fun z => qB z _ _) hp138).trans ?_
  refine (qB_s _ _ _).trans ?_
  refine (congrArg (fun z => qB z _ _) hw139).trans ?_
  refine (qB_s _ _ _).trans ?_
  refine (congrArg (fun z => qB z _ _) hp140).trans ?_
  refine (qB_s _ _ _).trans ?_
  refine (congrArg (fun z => qB z _ _) hw141).trans ?_
  refine (qB_s _ _ _).trans ?_
  refine (congrArg (fun z => qB z _ _) hp142).trans ?_
  refine (qB_s _ _ _).trans ?_
  refine (congrArg (fun z => qB z _ _) hw143).trans ?_
  refine (qB_s _ _ _).trans ?_
  refine (congrArg (fun z => qB z _ _) hp144).trans ?_
  refine (qB_s _ _ _).trans ?_
  refine (congrArg (fun z => qB z _ _) hw145).trans ?_
  refine (qB_s _ _ _).trans ?_
  refine (congrArg (fun z => qB z _ _) hp146).trans ?_
  refine (qB_s _ _ _).trans ?_
  refine (congrArg (fun z => qB z _ _) hw147).trans ?_
  refine (qB_s _ _ _).trans ?_
  refine (congrArg (fun z => qB z _ _) hp148).trans ?_
  refine (qB_s _ _ _).trans ?_
  refine (congrArg (fun z => qB z _ _) hw149).trans ?_
  refine (qB_s _ _ _).trans ?_
  refine (congrArg (fun z => qB z _ _) hp150).trans ?_
  refine (qB_s _ _ _).trans ?_
  refine (congrArg (fun z => qB z _ _) hw151).trans ?_
  refine (qB_s _ _ _).trans ?_
  refine (congrArg (fun z => qB z _ _) hp152).trans ?_
  refine (qB_s _ _ _).trans ?_
  refine (congrArg (fun z => qB z _ _) hw153).trans ?_
  refine (qB_s _ _ _).trans ?_
  refine (congrArg (fun z => qB z _ _) hp154).trans ?_
  refine (qB_s _ _ _).trans ?_
  rfl
theorem iF10 (sc : am_X) : am_F sc 10 [am_R (some 47)] iS95 = some (none, iS154) := iF10g sc iw96 ip97 iw98 ip99 iw100 ip101 iw102 ip103 iw104 ip105 iw106 ip107 iw108 ip109 iw110 ip111 iw112 ip113 iw114 ip115 iw116 ip117 iw118 ip119 iw120 ip121 iw122 ip123 iw124 ip125 iw126 ip127 iw128 ip129 ip130 iw131 ip132 iw133 ip134 iw135 ip136 iw137 ip138 iw139 ip140 iw141 ip142 iw143 ip144 iw145 ip146 iw147 ip148 iw149 ip150 iw151 ip152 iw153 ip154
theorem iF9g (sc : am_X) {s1 s2 s12 s13 s14 s20 s21 s22 s23 s24 s25 s26 s38 s39 s40 s41 s42 s43 s44 s55 s56 s57 s58 s59 s77 s78 s79 s83 s84 s85 s89 s90 s91 s92 s93 s94 : am_S} (ha2 : am_al s1 (.inr (1, am_dfs.getD 1 [])) (am_dfs.getD 1 []).length = s2) (hn2 : s2.2.1 = 2) (hm2 : s1.2.1 = 1) (hp13 : am_pf s12 0 11 0 (am_R (some 1)) = some s13) (ha14 : am_al s13 (.inr (4, am_dfs.getD 4 [])) (am_dfs.getD 4 []).length = s14) (hn14 : s14.2.1 = 8) (hm14 : s13.2.1 = 7) (hp21 : am_pf s20 0 11 1 (am_R (some 7)) = some s21) (hw22 : am_nwA s21 4 4 = some (11, s22)) (hp23 : am_pf s22 0 11 2 (am_R (some 11)) = some s23) (hw24 : am_nwA s23 5 4 = some (12, s24)) (hp25 : am_pf s24 0 11 3 (am_R (some 12)) = some s25) (ha26 : am_al s25 (.inr (6, am_dfs.getD 6 [])) (am_dfs.getD 6 []).length = s26) (hn26 : s26.2.1 = 14) (hm26 : s25.2.1 = 13) (hp39 : am_pf s38 0 11 4 (am_R (some 13)) = some s39) (hw40 : am_nwA s39 6 8 = some (20, s40)) (hp41 : am_pf s40 0 11 5 (am_R (some 20)) = some s41) (hw42 : am_nwA s41 7 8 = some (21, s42)) (hp43 : am_pf s42 0 11 6 (am_R (some 21)) = some s43) (ha44 : am_al s43 (.inr (8, am_dfs.getD 8 [])) (am_dfs.getD 8 []).length = s44) (hn44 : s44.2.1 = 23) (hm44 : s43.2.1 = 22) (hg0 : am_gR s44 0 11 0 = some (some 1)) (hp56 : am_pf s55 0 11 9 (am_R (some 22)) = some s56) (ha57 : am_al s56 (.inr (3, am_dfs.getD 3 [])) (am_dfs.getD 3 []).length = s57) (hn57 : s57.2.1 = 29) (hm57 : s56.2.1 = 28) (hp58 : am_pf s57 0 11 10 (am_R (some 28)) = some s58) (ha59 : am_al s58 (.inr (5, am_dfs.getD 5 [])) (am_dfs.getD 5 []).length = s59) (hn59 : s59.2.1 = 30) (hm59 : s58.2.1 = 29) (hp78 : am_pf s77 0 11 11 (am_R (some 29)) = some s78) (ha79 : am_al s78 (.inr (0, am_dfs.getD 0 [])) (am_dfs.getD 0 []).length = s79) (hn79 : s79.2.1 = 40) (hm79 : s78.2.1 = 39) (hp84 : am_pf s83 0 11 12 (am_R (some 39)) = some s84) (ha85 : am_al s84 (.inr (7, am_dfs.getD 7 [])) (am_dfs.getD 7 []).length = s85) (hn85 : s85.2.1 = 43) (hm85 : s84.2.1 = 42) (hp90 : am_pf s89 0 11 13 (am_R (some 42)) = some s90) (ha91 : am_al s90 (.inr (2, am_dfs.getD 2 [])) (am_dfs.getD 2 []).length = s91) (hn91 : s91.2.1 = 46) (hm91 : s90.2.1 = 45) (hp92 : am_pf s91 0 11 14 (am_R (some 45)) = some s92) (hw93 : am_nwA s92 0 11 = some (46, s93)) (hp94 : am_pf s93 0 11 15 (am_R (some 46)) = some s94) (hF0 : am_F sc 0 [am_R (some 1)] s2 = some (none, s12)) (hF1 : am_F sc 1 [am_R (some 7)] s14 = some (none, s20)) (hF2 : am_F sc 2 [am_R (some 13)] s26 = some (none, s38)) (hF3 : am_F sc 3 [am_R (some 22), am_R (some 1)] s44 = some (none, s55)) (hF4 : am_F sc 4 [am_R (some 28)] s57 = some (none, s57)) (hF5 : am_F sc 5 [am_R (some 29)] s59 = some (none, s77)) (hF6 : am_F sc 6 [am_R (some 39)] s79 = some (none, s83)) (hF7 : am_F sc 7 [am_R (some 42)] s85 = some (none, s89)) (hF8 : am_F sc 8 [am_R (some 45)] s91 = some (none, s91)) : am_F sc 9 [am_R (some 0)] s1 = some (none, s94) := by
  rw [fq_9]
  rw [ha2, hm2, hF0, r_V, qB_s]
  try dsimp only
  rw [hp13, qB_s]
  try dsimp only
  rw [ha14, hm14, hF1, r_V, qB_s]
  try dsimp only
  rw [hp21, qB_s]
  try dsimp only
  rw [hw22, qB_s]
  try dsimp only
  rw [hp23, qB_s]
  try dsimp only
  rw [hw24, qB_s]
  try dsimp only
  rw [hp25, qB_s]
  try dsimp only
  rw [ha26, hm26, hF2, r_V, qB_s]
  try dsimp only
  rw [hp39, qB_s]
  try dsimp only
  rw [hw40, qB_s]
  try dsimp only
  rw [hp41, qB_s]
  try dsimp only
  rw [hw42, qB_s]
  try dsimp only
  rw [hp43, qB_s]
  try dsimp only
  rw [ha44, hg0, qB_s]
  try dsimp only
  rw [hm44, hF3, r_V, qB_s]
  try dsimp only
  rw [hp56, qB_s]
  try dsimp only
  rw [ha57, hm57, hF4, r_V, qB_s]
  try dsimp only
  rw [hp58, qB_s]
  try dsimp only
  rw [ha59, hm59, hF5, r_V, qB_s]
  try dsimp only
  rw [hp78, qB_s]
  try dsimp only
  rw [ha79, hm79, hF6, r_V, qB_s]
  try dsimp only
  rw [hp84, qB_s]
  try dsimp only
  rw [ha85, hm85, hF7, r_V, qB_s]
  try dsimp only
  rw [hp90, qB_s]
  try dsimp only
  rw [ha91, hm91, hF8, r_V, qB_s]
  try dsimp only
  rw [hp92, qB_s]
  try dsimp only
  rw [hw93, qB_s]
  try dsimp only
  rw [hp94, qB_s]
  try dsimp only

theorem iF9 (sc : am_X) : am_F sc 9 [am_R (some 0)] iS1 = some (none, iS94) := iF9g sc ia2 in2 im2 ip13 ia14 in14 im14 ip21 iw22 ip23 iw24 ip25 ia26 in26 im26 ip39 iw40 ip41 iw42 ip43 ia44 in44 im44 ig0 ip56 ia57 in57 im57 ip58 ia59 in59 im59 ip78 ia79 in79 im79 ip84 ia85 in85 im85 ip90 ia91 in91 im91 ip92 iw93 ip94 (iF0 sc) (iF1 sc) (iF2 sc) (iF3 sc) (iF4 sc) (iF5 sc) (iF6 sc) (iF7 sc) (iF8 sc)
/-- the first world -/
def w00 : wo := (fun a k => if a = 47 ∧ k = 36 then -1 else 0, fun _ _ => 0, fun _ _ => 0, fun _ _ => 0, fun _ _ => none, fun _ _ => none, fun _ => none, 77, 34053)
set_option maxRecDepth 100000 in
theorem ih_0 : iS154.1 0 = hp w00 0 := rfl
set_option maxRecDepth 100000 in
theorem ih_1 : iS154.1 1 = hp w00 1 := rfl
set_option maxRecDepth 100000 in
theorem ih_2 : iS154.1 2 = hp w00 2 := rfl
set_option maxRecDepth 100000 in
theorem ih_3 : iS154.1 3 = hp w00 3 := rfl
set_option maxRecDepth 100000 in
theorem ih_4 : iS154.1 4 = hp w00 4 := rfl
set_option maxRecDepth 100000 in
theorem ih_5 : iS154.1 5 = hp w00 5 := rfl
set_option maxRecDepth 100000 in
theorem ih_6 : iS154.1 6 = hp w00 6 := rfl
set_option maxRecDepth 100000 in
theorem ih_7 : iS154.1 7 = hp w00 7 := rfl
set_option maxRecDepth 100000 in
theorem ih_8 : iS154.1 8 = hp w00 8 := rfl
set_option maxRecDepth 100000 in
theorem ih_9 : iS154.1 9 = hp w00 9 := rfl
set_option maxRecDepth 100000 in
theorem ih_10 : iS154.1 10 = hp w00 10 := rfl
set_option maxRecDepth 100000 in
theorem ih_11 : iS154.1 11 = hp w00 11 := rfl
set_option maxRecDepth 100000 in
theorem ih_12 : iS154.1 12 = hp w00 12 := rfl
set_option maxRecDepth 100000 in
theorem ih_13 : iS154.1 13 = hp w00 13 := rfl
set_option maxRecDepth 100000 in
theorem ih_14 : iS154.1 14 = hp w00 14 := rfl
set_option maxRecDepth 100000 in
theorem ih_15 : iS154.1 15 = hp w00 15 := rfl
set_option maxRecDepth 100000 in
theorem ih_16 : iS154.1 16 = hp w00 16 := rfl
set_option maxRecDepth 100000 in
theorem ih_17 : iS154.1 17 = hp w00 17 := rfl
set_option maxRecDepth 100000 in
theorem ih_18 : iS154.1 18 = hp w00 18 := rfl
set_option maxRecDepth 100000 in
theorem ih_19 : iS154.1 19 = hp w00 19 := rfl
set_option maxRecDepth 100000 in
theorem ih_20 : iS154.1 20 = hp w00 20 := rfl
set_option maxRecDepth 100000 in
theorem ih_21 : iS154.1 21 = hp w00 21 := rfl
set_option maxRecDepth 100000 in
theorem ih_22 : iS154.1 22 = hp w00 22 := rfl
set_option maxRecDepth 100000 in
theorem ih_23 : iS154.1 23 = hp w00 23 := rfl
set_option maxRecDepth 100000 in
theorem ih_24 : iS154.1 24 = hp w00 24 := rfl
set_option maxRecDepth 100000 in
theorem ih_25 : iS154.1 25 = hp w00 25 := rfl
set_option maxRecDepth 100000 in
theorem ih_26 : iS154.1 26 = hp w00 26 := rfl
set_option maxRecDepth 100000 in
theorem ih_27 : iS154.1 27 = hp w00 27 := rfl
set_option maxRecDepth 100000 in
theorem ih_28 : iS154.1 28 = hp w00 28 := rfl
set_option maxRecDepth 100000 in
theorem ih_29 : iS154.1 29 = hp w00 29 := rfl
set_option maxRecDepth 100000 in
theorem ih_30 : iS154.1 30 = hp w00 30 := rfl
set_option maxRecDepth 100000 in
theorem ih_31 : iS154.1 31 = hp w00 31 := rfl
set_option maxRecDepth 100000 in
theorem ih_32 : iS154.1 32 = hp w00 32 := rfl
set_option maxRecDepth 100000 in
theorem ih_33 : iS154.1 33 = hp w00 33 := rfl
set_option maxRecDepth 100000 in
theorem ih_34 : iS154.1 34 = hp w00 34 := rfl
set_option maxRecDepth 100000 in
theorem ih_35 : iS154.1 35 = hp w00 35 := rfl
set_option maxRecDepth 100000 in
theorem ih_36 : iS154.1 36 = hp w00 36 := rfl
set_option maxRecDepth 100000 in
theorem ih_37 : iS154.1 37 = hp w00 37 := rfl
set_option maxRecDepth 100000 in
theorem ih_38 : iS154.1 38 = hp w00 38 := rfl
set_option maxRecDepth 100000 in
theorem ih_39 : iS154.1 39 = hp w00 39 := rfl
set_option maxRecDepth 100000 in
theorem ih_40 : iS154.1 40 = hp w00 40 := rfl
set_option maxRecDepth 100000 in
theorem ih_41 : iS154.1 41 = hp w00 41 := rfl
set_option maxRecDepth 100000 in
theorem ih_42 : iS154.1 42 = hp w00 42 := rfl
set_option maxRecDepth 100000 in
theorem ih_43 : iS154.1 43 = hp w00 43 := rfl
set_option maxRecDepth 100000 in
theorem ih_44 : iS154.1 44 = hp w00 44 := rfl
set_option maxRecDepth 100000 in
theorem ih_45 : iS154.1 45 = hp w00 45 := rfl
set_option maxRecDepth 100000 in
theorem ih_46 : iS154.1 46 = hp w00 46 := rfl
set_option maxRecDepth 100000 in
theorem ih_47 : iS154.1 47 = hp w00 47 := rfl
set_option maxRecDepth 100000 in
theorem ih_48 : iS154.1 48 = hp w00 48 := rfl
set_option maxRecDepth 100000 in
theorem ih_49 : iS154.1 49 = hp w00 49 := rfl
set_option maxRecDepth 100000 in
theorem ih_50 : iS154.1 50 = hp w00 50 := rfl
set_option maxRecDepth 100000 in
theorem ih_51 : iS154.1 51 = hp w00 51 := rfl
set_option maxRecDepth 100000 in
theorem ih_52 : iS154.1 52 = hp w00 52 := rfl
set_option maxRecDepth 100000 in
theorem ih_53 : iS154.1 53 = hp w00 53 := rfl
set_option maxRecDepth 100000 in
theorem ih_54 : iS154.1 54 = hp w00 54 := rfl
set_option maxRecDepth 100000 in
theorem ih_55 : iS154.1 55 = hp w00 55 := rfl
set_option maxRecDepth 100000 in
theorem ih_56 : iS154.1 56 = hp w00 56 := rfl
set_option maxRecDepth 100000 in
theorem ih_57 : iS154.1 57 = hp w00 57 := rfl
set_option maxRecDepth 100000 in
theorem ih_58 : iS154.1 58 = hp w00 58 := rfl
set_option maxRecDepth 100000 in
theorem ih_59 : iS154.1 59 = hp w00 59 := rfl
set_option maxRecDepth 100000 in
theorem ih_60 : iS154.1 60 = hp w00 60 := rfl
set_option maxRecDepth 100000 in
theorem ih_61 : iS154.1 61 = hp w00 61 := rfl
set_option maxRecDepth 100000 in
theorem ih_62 : iS154.1 62 = hp w00 62 := rfl
set_option maxRecDepth 100000 in
theorem ih_63 : iS154.1 63 = hp w00 63 := rfl
set_option maxRecDepth 100000 in
theorem ih_64 : iS154.1 64 = hp w00 64 := rfl
set_option maxRecDepth 100000 in
theorem ih_65 : iS154.1 65 = hp w00 65 := rfl
set_option maxRecDepth 100000 in
theorem ih_66 : iS154.1 66 = hp w00 66 := rfl
set_option maxRecDepth 100000 in
theorem ih_67 : iS154.1 67 = hp w00 67 := rfl
set_option maxRecDepth 100000 in
theorem ih_68 : iS154.1 68 = hp w00 68 := rfl
set_option maxRecDepth 100000 in
theorem ih_69 : iS154.1 69 = hp w00 69 := rfl
set_option maxRecDepth 100000 in
theorem ih_70 : iS154.1 70 = hp w00 70 := rfl
set_option maxRecDepth 100000 in
theorem ih_71 : iS154.1 71 = hp w00 71 := rfl
set_option maxRecDepth 100000 in
theorem ih_72 : iS154.1 72 = hp w00 72 := rfl
set_option maxRecDepth 100000 in
theorem ih_73 : iS154.1 73 = hp w00 73 := rfl
set_option maxRecDepth 100000 in
theorem ih_74 : iS154.1 74 = hp w00 74 := rfl
set_option maxRecDepth 100000 in
theorem ih_75 : iS154.1 75 = hp w00 75 := rfl
set_option maxRecDepth 100000 in
theorem ih_76 : iS154.1 76 = hp w00 76 := rfl
set_option maxRecDepth 100000 in
theorem ih_n (n : Nat) : iS154.1 (n + 77) = hp w00 (n + 77) := rfl
theorem i_heap (a : Nat) : iS154.1 a = hp w00 a := by
  by_cases z0 : a = 0
  · rw [z0]; exact ih_0
  by_cases z1 : a = 1
  · rw [z1]; exact ih_1
  by_cases z2 : a = 2
  · rw [z2]; exact ih_2
  by_cases z3 : a = 3
  · rw [z3]; exact ih_3
  by_cases z4 : a = 4
  · rw [z4]; exact ih_4
  by_cases z5 : a = 5
  · rw [z5]; exact ih_5
  by_cases z6 : a = 6
  · rw [z6]; exact ih_6
  by_cases z7 : a = 7
  · rw [z7]; exact ih_7
  by_cases z8 : a = 8
  · rw [z8]; exact ih_8
  by_cases z9 : a = 9
  · rw [z9]; exact ih_9
  by_cases z10 : a = 10
  · rw [z10]; exact ih_10
  by_cases z11 : a = 11
  · rw [z11]; exact ih_11
  by_cases z12 : a = 12
  · rw [z12]; exact ih_12
  by_cases z13 : a = 13
  · rw [z13]; exact ih_13
  by_cases z14 : a = 14
  · rw [z14]; exact ih_14
  by_cases z15 : a = 15
  · rw [z15]; exact ih_15
  by_cases z16 : a = 16
  · rw [z16]; exact ih_16
  by_cases z17 : a = 17
  · rw [z17]; exact ih_17
  by_cases z18 : a = 18
  · rw [z18]; exact ih_18
  by_cases z19 : a = 19
  · rw [z19]; exact ih_19
  by_cases z20 : a = 20
  · rw [z20]; exact ih_20
  by_cases z21 : a = 21
  · rw [z21]; exact ih_21
  by_cases z22 : a = 22
  · rw [z22]; exact ih_22
  by_cases z23 : a = 23
  · rw [z23]; exact ih_23
  by_cases z24 : a = 24
  · rw [z24]; exact ih_24
  by_cases z25 : a = 25
  · rw [z25]; exact ih_25
  by_cases z26 : a = 26
  · rw [z26]; exact ih_26
  by_cases z27 : a = 27
  · rw [z27]; exact ih_27
  by_cases z28 : a = 28
  · rw [z28]; exact ih_28
  by_cases z29 : a = 29
  · rw [z29]; exact ih_29
  by_cases z30 : a = 30
  · rw [z30]; exact ih_30
  by_cases z31 : a = 31
  · rw [z31]; exact ih_31
  by_cases z32 : a = 32
  · rw [z32]; exact ih_32
  by_cases z33 : a = 33
  · rw [z33]; exact ih_33
  by_cases z34 : a = 34
  · rw [z34]; exact ih_34
  by_cases z35 : a = 35
  · rw [z35]; exact ih_35
  by_cases z36 : a = 36
  · rw [z36]; exact ih_36
  by_cases z37 : a = 37
  · rw [z37]; exact ih_37
  by_cases z38 : a = 38
  · rw [z38]; exact ih_38
  by_cases z39 : a = 39
  · rw [z39]; exact ih_39
  by_cases z40 : a = 40
  · rw [z40]; exact ih_40
  by_cases z41 : a = 41
  · rw [z41]; exact ih_41
  by_cases z42 : a = 42
  · rw [z42]; exact ih_42
  by_cases z43 : a = 43
  · rw [z43]; exact ih_43
  by_cases z44 : a = 44
  · rw [z44]; exact ih_44
  by_cases z45 : a = 45
  · rw [z45]; exact ih_45
  by_cases z46 : a = 46
  · rw [z46]; exact ih_46
  by_cases z47 : a = 47
  · rw [z47]; exact ih_47
  by_cases z48 : a = 48
  · rw [z48]; exact ih_48
  by_cases z49 : a = 49
  · rw [z49]; exact ih_49
  by_cases z50 : a = 50
  · rw [z50]; exact ih_50
  by_cases z51 : a = 51
  · rw [z51]; exact ih_51
  by_cases z52 : a = 52
  · rw [z52]; exact ih_52
  by_cases z53 : a = 53
  · rw [z53]; exact ih_53
  by_cases z54 : a = 54
  · rw [z54]; exact ih_54
  by_cases z55 : a = 55
  · rw [z55]; exact ih_55
  by_cases z56 : a = 56
  · rw [z56]; exact ih_56
  by_cases z57 : a = 57
  · rw [z57]; exact ih_57
  by_cases z58 : a = 58
  · rw [z58]; exact ih_58
  by_cases z59 : a = 59
  · rw [z59]; exact ih_59
  by_cases z60 : a = 60
  · rw [z60]; exact ih_60
  by_cases z61 : a = 61
  · rw [z61]; exact ih_61
  by_cases z62 : a = 62
  · rw [z62]; exact ih_62
  by_cases z63 : a = 63
  · rw [z63]; exact ih_63
  by_cases z64 : a = 64
  · rw [z64]; exact ih_64
  by_cases z65 : a = 65
  · rw [z65]; exact ih_65
  by_cases z66 : a = 66
  · rw [z66]; exact ih_66
  by_cases z67 : a = 67
  · rw [z67]; exact ih_67
  by_cases z68 : a = 68
  · rw [z68]; exact ih_68
  by_cases z69 : a = 69
  · rw [z69]; exact ih_69
  by_cases z70 : a = 70
  · rw [z70]; exact ih_70
  by_cases z71 : a = 71
  · rw [z71]; exact ih_71
  by_cases z72 : a = 72
  · rw [z72]; exact ih_72
  by_cases z73 : a = 73
  · rw [z73]; exact ih_73
  by_cases z74 : a = 74
  · rw [z74]; exact ih_74
  by_cases z75 : a = 75
  · rw [z75]; exact ih_75
  by_cases z76 : a = 76
  · rw [z76]; exact ih_76
  obtain ⟨n, rfl⟩ : ∃ n, a = n + 77 := ⟨a - 77, by omega⟩
  exact ih_n n
theorem i_wst : iS154 = wst w00 := by
  show (iS154.1, iS154.2) = (hp w00, (wst w00).2)
  rw [show iS154.1 = hp w00 from funext i_heap]
  rfl
theorem i_rg (sc : am_X) {s1 s94 s95 s154 : am_S} (ha1 : am_al am_s0 (.inr (11, am_dfs.getD 11 [])) (am_dfs.getD 11 []).length = s1) (hm1 : am_s0.2.1 = 0) (hF9 : am_F sc 9 [am_R (some 0)] s1 = some (none, s94)) (ha95 : am_al s94 (.inr (12, am_dfs.getD 12 [])) (am_dfs.getD 12 []).length = s95) (hm95 : s94.2.1 = 47) (hF10 : am_F sc 10 [am_R (some 47)] s95 = some (none, s154)) : am_F sc 289 [am_O 0] am_s0 = am_W sc 289 (18, [some (am_O 0), some (am_R (some 0)), some (am_R (some 47)), some (am_I 0)], [], s154) := by
  rw [fq_289]
  simp only [qB_s, r_V, ha1, hm1, hF9, ha95, hm95, hF10]
theorem i_r (sc : am_X) : am_F sc 289 [am_O 0] am_s0 = am_W sc 289 (18, [some (am_O 0), some (am_R (some 0)), some (am_R (some 47)), some (am_I 0)], [], iS154) := i_rg sc ia1 im1 (iF9 sc) ia95 im95 (iF10 sc)
theorem i_run (sc : am_X) : am_F sc 289 [am_O 0] am_s0 = am_W sc 289 (18, [some (am_O 0), some (am_R (some 0)), some (am_R (some 47)), some (am_I 0)], [], wst w00) := by
  rw [i_r, i_wst]
