abbrev m_Cases_init : Nat := 0
def cd_0 : am_P := [[(0, .aload_n 0, 1, 0), (1, .invokespecial 3, 3, 999), (4, .aload_n 0, 1, 0), (5, .sipush 200, 3, 0), (8, .newarray .int, 2, 0), (10, .putfield 9, 3, 1002), (13, .aload_n 0, 1, 0), (14, .sipush 200, 3, 0), (17, .newarray .int, 2, 0), (19, .putfield 15, 3, 1012), (22, .aload_n 0, 1, 0), (23, .sipush 200, 3, 0), (26, .newarray .int, 2, 0), (28, .putfield 18, 3, 1022), (31, .aload_n 0, 1, 0), (32, .sipush 200, 3, 0), (35, .newarray .int, 2, 0), (37, .putfield 21, 3, 1032), (40, .aload_n 0, 1, 0), (41, .sipush 1200, 3, 0), (44, .newarray .int, 2, 0), (46, .putfield 24, 3, 1042), (49, .return_, 1, 0)]]
abbrev cu_0 : List Nat := []
theorem dk_0 : am_okd prog_3_method_1_code cd_0 = true := by decide +kernel
abbrev m_Letters_init : Nat := 1
def cd_1 : am_P := [[(0, .aload_n 0, 1, 0), (1, .invokespecial 3, 3, 999), (4, .aload_n 0, 1, 0), (5, .sipush 200, 3, 0), (8, .newarray .int, 2, 0), (10, .putfield 9, 3, 4002), (13, .aload_n 0, 1, 0), (14, .sipush 200, 3, 0), (17, .newarray .boolean, 2, 1), (19, .putfield 15, 3, 4012), (22, .aload_n 0, 1, 0), (23, .sipush 200, 3, 0), (26, .newarray .boolean, 2, 1), (28, .putfield 19, 3, 4022), (31, .return_, 1, 0)]]
abbrev cu_1 : List Nat := []
theorem dk_1 : am_okd prog_6_method_1_code cd_1 = true := by decide +kernel
abbrev m_Reader_init : Nat := 2
def cd_2 : am_P := [[(0, .aload_n 0, 1, 0), (1, .invokespecial 5, 3, 999), (4, .aload_n 0, 1, 0), (5, .sipush 400, 3, 0), (8, .newarray .int, 2, 0), (10, .putfield 11, 3, 6002), (13, .aload_n 0, 1, 0), (14, .sipush 401, 3, 0), (17, .newarray .int, 2, 0), (19, .putfield 17, 3, 6022), (22, .aload_n 0, 1, 0), (23, .sipush 401, 3, 0), (26, .newarray .int, 2, 0), (28, .putfield 20, 3, 6032), (31, .aload_n 0, 1, 0), (32, .sipush 401, 3, 0), (35, .newarray .int, 2, 0), (37, .putfield 23, 3, 6042), (40, .aload_n 0, 1, 0), (41, .sipush 400, 3, 0), (44, .newarray .int, 2, 0), (46, .putfield 26, 3, 6072), (49, .aload_n 0, 1, 0), (50, .sipush 400, 3, 0), (53, .newarray .int, 2, 0), (55, .putfield 29, 3, 6112), (58, .return_, 1, 0)]]
abbrev cu_2 : List Nat := []
theorem dk_2 : am_okd prog_8_method_1_code cd_2 = true := by decide +kernel
abbrev m_Taken_init : Nat := 3
def cd_3 : am_P := [[(0, .aload_n 0, 1, 0), (1, .invokespecial 3, 3, 999), (4, .aload_n 0, 1, 0), (5, .bipush 11, 2, 0), (7, .newarray .int, 2, 0), (9, .putfield 9, 3, 8012), (12, .aload_n 0, 1, 0), (13, .sipush 200, 3, 0), (16, .newarray .int, 2, 0), (18, .putfield 15, 3, 8022), (21, .aload_n 0, 1, 0), (22, .sipush 200, 3, 0), (25, .newarray .int, 2, 0), (27, .putfield 18, 3, 8052), (30, .aload_n 0, 1, 0), (31, .sipush 200, 3, 0), (34, .newarray .int, 2, 0), (36, .putfield 21, 3, 8062), (39, .aload_n 0, 1, 0), (40, .sipush 800, 3, 0), (43, .newarray .int, 2, 0), (45, .putfield 24, 3, 8072), (48, .aload_n 0, 1, 0), (49, .aload_n 1, 1, 0), (50, .putfield 27, 3, 8002), (53, .return_, 1, 0)]]
abbrev cu_3 : List Nat := []
theorem dk_3 : am_okd prog_10_method_1_code cd_3 = true := by decide +kernel
abbrev m_Fraction_init : Nat := 4
def cd_4 : am_P := [[(0, .aload_n 0, 1, 0), (1, .invokespecial 3, 3, 999), (4, .return_, 1, 0)]]
abbrev cu_4 : List Nat := []
theorem dk_4 : am_okd prog_5_method_1_code cd_4 = true := by decide +kernel
abbrev m_Pairing_init : Nat := 5
def cd_5 : am_P := [[(0, .aload_n 0, 1, 0), (1, .invokespecial 3, 3, 999), (4, .aload_n 0, 1, 0), (5, .bipush 10, 2, 0), (7, .newarray .int, 2, 0), (9, .putfield 11, 3, 5002), (12, .aload_n 0, 1, 0), (13, .bipush 10, 2, 0), (15, .newarray .int, 2, 0), (17, .putfield 15, 3, 5012), (20, .aload_n 0, 1, 0), (21, .bipush 121, 2, 0), (23, .newarray .int, 2, 0), (25, .putfield 18, 3, 5022), (28, .aload_n 0, 1, 0), (29, .bipush 11, 2, 0), (31, .newarray .int, 2, 0), (33, .putfield 21, 3, 5032), (36, .aload_n 0, 1, 0), (37, .bipush 11, 2, 0), (39, .newarray .int, 2, 0), (41, .putfield 24, 3, 5042), (44, .aload_n 0, 1, 0), (45, .bipush 11, 2, 0), (47, .newarray .int, 2, 0), (49, .putfield 27, 3, 5052), (52, .aload_n 0, 1, 0), (53, .bipush 11, 2, 0), (55, .newarray .int, 2, 0), (57, .putfield 30, 3, 5062), (60, .aload_n 0, 1, 0), (61, .bipush 11, 2, 0), (63, .newarray .int, 2, 0)],
  [(65, .putfield 33, 3, 5072), (68, .aload_n 0, 1, 0), (69, .bipush 11, 2, 0), (71, .newarray .boolean, 2, 1), (73, .putfield 36, 3, 5082), (76, .return_, 1, 0)]]
abbrev cu_5 : List Nat := []
theorem dk_5 : am_okd prog_7_method_1_code cd_5 = true := by decide +kernel
abbrev m_Bars_init : Nat := 6
def cd_6 : am_P := [[(0, .aload_n 0, 1, 0), (1, .invokespecial 3, 3, 999), (4, .aload_n 0, 1, 0), (5, .bipush 22, 2, 0), (7, .newarray .int, 2, 0), (9, .putfield 9, 3, 2), (12, .aload_n 0, 1, 0), (13, .bipush 22, 2, 0), (15, .newarray .int, 2, 0), (17, .putfield 15, 3, 12), (20, .return_, 1, 0)]]
abbrev cu_6 : List Nat := []
theorem dk_6 : am_okd prog_2_method_1_code cd_6 = true := by decide +kernel
abbrev m_ShortRules_init : Nat := 7
def cd_7 : am_P := [[(0, .aload_n 0, 1, 0), (1, .invokespecial 5, 3, 999), (4, .aload_n 0, 1, 0), (5, .sipush 444, 3, 0), (8, .newarray .long, 2, 3), (10, .putfield 11, 3, 7002), (13, .aload_n 0, 1, 0), (14, .iconst 4, 1, 0), (15, .newarray .long, 2, 3), (17, .putfield 15, 3, 7012), (20, .return_, 1, 0)]]
abbrev cu_7 : List Nat := []
theorem dk_7 : am_okd prog_9_method_1_code cd_7 = true := by decide +kernel
abbrev m_Change_init : Nat := 8
def cd_8 : am_P := [[(0, .aload_n 0, 1, 0), (1, .invokespecial 3, 3, 999), (4, .return_, 1, 0)]]
abbrev cu_8 : List Nat := []
theorem dk_8 : am_okd prog_4_method_1_code cd_8 = true := by decide +kernel
abbrev m_B_init : Nat := 9
def cd_9 : am_P := [[(0, .aload_n 0, 1, 0), (1, .invokespecial 1, 3, 999), (4, .aload_n 0, 1, 0), (5, .new 7, 3, 1), (8, .dup, 1, 0), (9, .invokespecial 9, 3, 287), (12, .putfield 10, 3, 11002), (15, .aload_n 0, 1, 0), (16, .new 16, 3, 4), (19, .dup, 1, 0), (20, .invokespecial 18, 3, 4383), (23, .putfield 19, 3, 11012), (26, .aload_n 0, 1, 0), (27, .iconst 4, 1, 0), (28, .anewarray 7, 3, 4), (31, .putfield 23, 3, 11022), (34, .aload_n 0, 1, 0), (35, .iconst 4, 1, 0), (36, .anewarray 16, 3, 5), (39, .putfield 27, 3, 11032), (42, .aload_n 0, 1, 0), (43, .new 31, 3, 6), (46, .dup, 1, 0), (47, .invokespecial 33, 3, 8479), (50, .putfield 34, 3, 11042), (53, .aload_n 0, 1, 0), (54, .bipush 8, 2, 0), (56, .anewarray 38, 3, 6), (59, .putfield 40, 3, 11052), (62, .aload_n 0, 1, 0), (63, .bipush 8, 2, 0)],
  [(65, .anewarray 44, 3, 7), (68, .putfield 46, 3, 11062), (71, .aload_n 0, 1, 0), (72, .new 50, 3, 8), (75, .dup, 1, 0), (76, .aload_n 0, 1, 0), (77, .getfield 10, 3, 11002), (80, .invokespecial 52, 3, 12831), (83, .putfield 55, 3, 11092), (86, .aload_n 0, 1, 0), (87, .new 59, 3, 3), (90, .dup, 1, 0), (91, .invokespecial 61, 3, 16671), (94, .putfield 62, 3, 11102), (97, .aload_n 0, 1, 0), (98, .new 66, 3, 5), (101, .dup, 1, 0), (102, .invokespecial 68, 3, 20767), (105, .putfield 69, 3, 11112), (108, .aload_n 0, 1, 0), (109, .new 73, 3, 0), (112, .dup, 1, 0), (113, .invokespecial 75, 3, 24863), (116, .putfield 76, 3, 11122), (119, .aload_n 0, 1, 0), (120, .new 80, 3, 7), (123, .dup, 1, 0), (124, .invokespecial 82, 3, 28959), (127, .putfield 83, 3, 11132)],
  [(130, .aload_n 0, 1, 0), (131, .new 87, 3, 2), (134, .dup, 1, 0), (135, .invokespecial 89, 3, 33055), (138, .putfield 90, 3, 11142), (141, .aload_n 0, 1, 0), (142, .bipush 11, 2, 0), (144, .newarray .int, 2, 0), (146, .putfield 94, 3, 11152), (149, .return_, 1, 0)]]
abbrev cu_9 : List Nat := []
theorem dk_9 : am_okd prog_1_method_1_code cd_9 = true := by decide +kernel
abbrev m_R_init : Nat := 10
def cd_10 : am_P := [[(0, .aload_n 0, 1, 0), (1, .invokespecial 1, 3, 999), (4, .aload_n 0, 1, 0), (5, .sipush 2000, 3, 0), (8, .newarray .int, 2, 0), (10, .putfield 7, 3, 12012), (13, .aload_n 0, 1, 0), (14, .sipush 600, 3, 0), (17, .newarray .int, 2, 0), (19, .putfield 13, 3, 12032), (22, .aload_n 0, 1, 0), (23, .sipush 400, 3, 0), (26, .newarray .byte, 2, 2), (28, .putfield 16, 3, 12042), (31, .aload_n 0, 1, 0), (32, .sipush 6400, 3, 0), (35, .newarray .int, 2, 0), (37, .putfield 20, 3, 12062), (40, .aload_n 0, 1, 0), (41, .bipush 16, 2, 0), (43, .newarray .int, 2, 0), (45, .putfield 23, 3, 12072), (48, .aload_n 0, 1, 0), (49, .bipush 8, 2, 0), (51, .newarray .boolean, 2, 1), (53, .putfield 26, 3, 12102), (56, .aload_n 0, 1, 0), (57, .bipush 8, 2, 0), (59, .newarray .int, 2, 0), (61, .putfield 30, 3, 12112)],
  [(64, .aload_n 0, 1, 0), (65, .bipush 48, 2, 0), (67, .newarray .int, 2, 0), (69, .putfield 33, 3, 12122), (72, .aload_n 0, 1, 0), (73, .bipush 8, 2, 0), (75, .newarray .int, 2, 0), (77, .putfield 36, 3, 12132), (80, .aload_n 0, 1, 0), (81, .sipush 400, 3, 0), (84, .newarray .int, 2, 0), (86, .putfield 39, 3, 12202), (89, .aload_n 0, 1, 0), (90, .bipush 64, 2, 0), (92, .newarray .int, 2, 0), (94, .putfield 42, 3, 12222), (97, .aload_n 0, 1, 0), (98, .sipush 200, 3, 0), (101, .newarray .int, 2, 0), (103, .putfield 45, 3, 12272), (106, .aload_n 0, 1, 0), (107, .iconst 2, 1, 0), (108, .newarray .int, 2, 0), (110, .putfield 48, 3, 12282), (113, .aload_n 0, 1, 0), (114, .iconst 2, 1, 0), (115, .newarray .int, 2, 0), (117, .putfield 51, 3, 12292), (120, .aload_n 0, 1, 0), (121, .sipush 3721, 3, 0), (124, .newarray .long, 2, 3), (126, .putfield 54, 3, 12322)],
  [(129, .aload_n 0, 1, 0), (130, .sipush 200, 3, 0), (133, .newarray .int, 2, 0), (135, .putfield 58, 3, 12342), (138, .aload_n 0, 1, 0), (139, .sipush 800, 3, 0), (142, .newarray .int, 2, 0), (144, .putfield 61, 3, 12352), (147, .aload_n 0, 1, 0), (148, .iconst (-1), 1, 0), (149, .putfield 64, 3, 12360), (152, .aload_n 0, 1, 0), (153, .bipush 10, 2, 0), (155, .newarray .int, 2, 0), (157, .putfield 68, 3, 12372), (160, .aload_n 0, 1, 0), (161, .bipush 10, 2, 0), (163, .newarray .int, 2, 0), (165, .putfield 71, 3, 12382), (168, .aload_n 0, 1, 0), (169, .sipush 1024, 3, 0), (172, .newarray .int, 2, 0), (174, .putfield 74, 3, 12412), (177, .aload_n 0, 1, 0), (178, .iconst 2, 1, 0), (179, .newarray .int, 2, 0), (181, .putfield 77, 3, 12452), (184, .aload_n 0, 1, 0), (185, .iconst 2, 1, 0), (186, .newarray .int, 2, 0), (188, .putfield 80, 3, 12462), (191, .aload_n 0, 1, 0)],
  [(192, .bipush 20, 2, 0), (194, .newarray .int, 2, 0), (196, .putfield 83, 3, 12472), (199, .aload_n 0, 1, 0), (200, .bipush 10, 2, 0), (202, .newarray .int, 2, 0), (204, .putfield 86, 3, 12482), (207, .aload_n 0, 1, 0), (208, .sipush 200, 3, 0), (211, .newarray .boolean, 2, 1), (213, .putfield 89, 3, 12492), (216, .aload_n 0, 1, 0), (217, .sipush 200, 3, 0), (220, .newarray .boolean, 2, 1), (222, .putfield 92, 3, 12502), (225, .aload_n 0, 1, 0), (226, .bipush 6, 2, 0), (228, .newarray .int, 2, 0), (230, .putfield 95, 3, 12542), (233, .aload_n 0, 1, 0), (234, .sipush 10408, 3, 0), (237, .newarray .int, 2, 0), (239, .putfield 98, 3, 12552), (242, .aload_n 0, 1, 0), (243, .iconst 4, 1, 0), (244, .newarray .boolean, 2, 1), (246, .putfield 101, 3, 12562), (249, .return_, 1, 0)]]
abbrev cu_10 : List Nat := []
theorem dk_10 : am_okd prog_14_method_1_code cd_10 = true := by decide +kernel
abbrev m_B_isTrait : Nat := 11
def cd_11 : am_P := [[(0, .iload_n 0, 1, 0), (1, .ifCond .eq 8, 3, 9), (4, .iload_n 0, 1, 0), (5, .iconst 1, 1, 0), (6, .if_icmp .ne 7, 3, 13), (9, .iconst 1, 1, 0), (10, .goto 4, 3, 14), (13, .iconst 0, 1, 0), (14, .ireturn, 1, 1)]]
abbrev cu_11 : List Nat := []
theorem dk_11 : am_okd prog_1_method_40_code cd_11 = true := by decide +kernel
abbrev m_B_isOffice : Nat := 12
def cd_12 : am_P := [[(0, .iload_n 0, 1, 0), (1, .ifCond .lt 13, 3, 14), (4, .iload_n 0, 1, 0), (5, .bipush 8, 2, 0), (7, .if_icmp .ge 7, 3, 14), (10, .iconst 1, 1, 0), (11, .goto 4, 3, 15), (14, .iconst 0, 1, 0), (15, .ireturn, 1, 1)]]
abbrev cu_12 : List Nat := []
theorem dk_12 : am_okd prog_1_method_42_code cd_12 = true := by decide +kernel
abbrev m_jA_rangeCheck : Nat := 13
def cd_13 : am_P := [[(0, .iload_n 1, 1, 0), (1, .iload_n 2, 1, 0), (2, .if_icmp .le 44, 3, 46), (8, .dup, 1, 0), (12, .dup, 1, 0), (21, .iload_n 1, 1, 0), (30, .iload_n 2, 1, 0), (46, .iload_n 1, 1, 0), (47, .ifCond .ge 12, 3, 59), (53, .dup, 1, 0), (54, .iload_n 1, 1, 0), (59, .iload_n 2, 1, 0), (60, .iload_n 0, 1, 0), (61, .if_icmp .le 12, 3, 73)],
  [(67, .dup, 1, 0), (68, .iload_n 2, 1, 0), (73, .return_, 1, 0)]]
abbrev cu_13 : List Nat := []
theorem dk_13 : am_okd prog_22_method_30_code cd_13 = true := by decide +kernel
abbrev m_jA_fill0 : Nat := 14
def cd_14 : am_P := [[(0, .aload_n 0, 1, 0), (1, .arraylength, 1, 0), (2, .iload_n 1, 1, 0), (3, .iload_n 2, 1, 0), (4, .invokestatic 13, 3, 54047), (7, .iload_n 1, 1, 0), (8, .istore 4, 2, 0), (10, .iload 4, 2, 0), (12, .iload_n 2, 1, 0), (13, .if_icmp .ge 14, 3, 27), (16, .aload_n 0, 1, 0), (17, .iload 4, 2, 0), (19, .iload_n 3, 1, 0), (20, .iastore, 1, 0), (21, .iinc 4 1, 3, 0), (24, .goto (-14), 3, 10), (27, .return_, 1, 0)]]
abbrev cu_14 : List Nat := [10]
theorem dk_14 : am_okd prog_22_method_104_code cd_14 = true := by decide +kernel
abbrev m_Cases_add : Nat := 15
def cd_15 : am_P := [[(0, .aload_n 0, 1, 0), (1, .getfield 27, 3, 1050), (4, .ifCond .lt 13, 3, 17), (7, .aload_n 0, 1, 0), (8, .getfield 27, 3, 1050), (11, .sipush 200, 3, 0), (14, .if_icmp .lt 5, 3, 19), (17, .iconst (-1), 1, 0), (18, .ireturn, 1, 0), (19, .aload_n 0, 1, 0), (20, .getfield 9, 3, 1002), (23, .aload_n 0, 1, 0), (24, .getfield 27, 3, 1050), (27, .iload_n 1, 1, 0), (28, .iastore, 1, 0), (29, .aload_n 0, 1, 0), (30, .getfield 15, 3, 1012), (33, .aload_n 0, 1, 0), (34, .getfield 27, 3, 1050), (37, .iload_n 2, 1, 0), (38, .iastore, 1, 0), (39, .aload_n 0, 1, 0), (40, .getfield 18, 3, 1022), (43, .aload_n 0, 1, 0), (44, .getfield 27, 3, 1050), (47, .iload_n 3, 1, 0), (48, .iastore, 1, 0), (49, .aload_n 0, 1, 0), (50, .getfield 21, 3, 1032), (53, .aload_n 0, 1, 0), (54, .getfield 27, 3, 1050), (57, .iload 4, 2, 0), (59, .iastore, 1, 0), (60, .aload_n 0, 1, 0), (61, .getfield 24, 3, 1042)],
  [(64, .aload_n 0, 1, 0), (65, .getfield 27, 3, 1050), (68, .bipush 6, 2, 0), (70, .imul, 1, 0), (71, .aload_n 0, 1, 0), (72, .getfield 27, 3, 1050), (75, .bipush 6, 2, 0), (77, .imul, 1, 0), (78, .bipush 6, 2, 0), (80, .iadd, 1, 0), (81, .iconst (-1), 1, 0), (82, .invokestatic 31, 3, 58399), (85, .aload_n 0, 1, 0), (86, .dup, 1, 0), (87, .getfield 27, 3, 1050), (90, .iconst 1, 1, 0), (91, .iadd, 1, 0), (92, .putfield 27, 3, 1050), (95, .aload_n 0, 1, 0), (96, .getfield 27, 3, 1050), (99, .iconst 1, 1, 0), (100, .isub, 1, 0), (101, .ireturn, 1, 0)]]
abbrev cu_15 : List Nat := []
theorem dk_15 : am_okd prog_3_method_3_code cd_15 = true := by decide +kernel
abbrev m_B_asks : Nat := 16
def cd_16 : am_P := [[(0, .iload_n 1, 1, 0), (1, .invokestatic 98, 3, 45375), (4, .ifCond .eq 31, 3, 35), (7, .iload_n 2, 1, 0), (8, .invokestatic 102, 3, 49471), (11, .ifCond .eq 24, 3, 35), (14, .iload_n 3, 1, 0), (15, .ifCond .lt 20, 3, 35), (18, .iload_n 3, 1, 0), (19, .iconst 2, 1, 0), (20, .if_icmp .gt 15, 3, 35), (23, .iload 4, 2, 0), (25, .iconst (-1), 1, 0), (26, .if_icmp .lt 9, 3, 35), (29, .iload 4, 2, 0), (31, .iconst 1, 1, 0), (32, .if_icmp .le 5, 3, 37), (35, .iconst (-1), 1, 0), (36, .ireturn, 1, 0), (37, .aload_n 0, 1, 0), (38, .getfield 10, 3, 11002), (41, .iload_n 1, 1, 0), (42, .iload_n 2, 1, 0), (43, .iload_n 3, 1, 0), (44, .iload 4, 2, 0), (46, .invokevirtual 105, 3, 62753), (49, .ireturn, 1, 0)]]
abbrev cu_16 : List Nat := []
theorem dk_16 : am_okd prog_1_method_2_code cd_16 = true := by decide +kernel
abbrev m_R_in : Nat := 17
def cd_17 : am_P := [[(0, .lload_n 0, 1, 0), (1, .lload_n 2, 1, 0), (2, .lcmp, 1, 0), (3, .ifCond .lt 14, 3, 17), (6, .lload_n 0, 1, 0), (7, .lload 4, 2, 0), (9, .lcmp, 1, 0), (10, .ifCond .gt 7, 3, 17), (13, .iconst 1, 1, 0), (14, .goto 4, 3, 18), (17, .iconst 0, 1, 0), (18, .ireturn, 1, 1)]]
abbrev cu_17 : List Nat := []
theorem dk_17 : am_okd prog_14_method_2_code cd_17 = true := by decide +kernel
abbrev m_R_asks : Nat := 18
def cd_18 : am_P := [[(0, .aload_n 0, 1, 0), (1, .getfield 104, 3, 12000), (4, .sipush 200, 3, 0), (7, .if_icmp .eq 50, 3, 57), (10, .iload_n 1, 1, 0), (11, .i2l, 1, 0), (12, .lconst 0, 1, 0), (13, .lconst 1, 1, 0), (14, .invokestatic 107, 3, 70463), (17, .ifCond .eq 40, 3, 57), (20, .iload_n 2, 1, 0), (21, .i2l, 1, 0), (22, .lconst 0, 1, 0), (23, .ldc2_w 111, 3, 7), (26, .invokestatic 107, 3, 70463), (29, .ifCond .eq 28, 3, 57), (32, .iload_n 3, 1, 0), (33, .i2l, 1, 0), (34, .lconst 0, 1, 0), (35, .ldc2_w 113, 3, 2), (38, .invokestatic 107, 3, 70463), (41, .ifCond .eq 16, 3, 57), (44, .iload 4, 2, 0), (46, .i2l, 1, 0), (47, .ldc2_w 115, 3, 18446744073709551615), (50, .lconst 1, 1, 0), (51, .invokestatic 107, 3, 70463), (54, .ifCond .ne 5, 3, 59), (57, .iconst (-1), 1, 0), (58, .ireturn, 1, 0), (59, .bipush 10, 2, 0), (61, .aload_n 0, 1, 0), (62, .getfield 104, 3, 12000)],
  [(65, .imul, 1, 0), (66, .istore 5, 2, 0), (68, .aload_n 0, 1, 0), (69, .getfield 7, 3, 12012), (72, .iload 5, 2, 0), (74, .iload_n 1, 1, 0), (75, .iastore, 1, 0), (76, .aload_n 0, 1, 0), (77, .getfield 7, 3, 12012), (80, .iload 5, 2, 0), (82, .iconst 1, 1, 0), (83, .iadd, 1, 0), (84, .iload_n 2, 1, 0), (85, .iastore, 1, 0), (86, .aload_n 0, 1, 0), (87, .getfield 7, 3, 12012), (90, .iload 5, 2, 0), (92, .iconst 2, 1, 0), (93, .iadd, 1, 0), (94, .iload_n 3, 1, 0), (95, .iastore, 1, 0), (96, .aload_n 0, 1, 0), (97, .getfield 7, 3, 12012), (100, .iload 5, 2, 0), (102, .iconst 3, 1, 0), (103, .iadd, 1, 0), (104, .iload 4, 2, 0), (106, .iastore, 1, 0), (107, .iconst 0, 1, 0), (108, .istore 6, 2, 0), (110, .iload 6, 2, 0), (112, .bipush 6, 2, 0), (114, .if_icmp .ge 22, 3, 136), (117, .aload_n 0, 1, 0), (118, .getfield 7, 3, 12012), (121, .iload 5, 2, 0), (123, .iconst 4, 1, 0), (124, .iadd, 1, 0), (125, .iload 6, 2, 0), (127, .iadd, 1, 0)],
  [(128, .iconst (-1), 1, 0), (129, .iastore, 1, 0), (130, .iinc 6 1, 3, 0), (133, .goto (-23), 3, 110), (136, .aload_n 0, 1, 0), (137, .dup, 1, 0), (138, .getfield 104, 3, 12000), (141, .iconst 1, 1, 0), (142, .iadd, 1, 0), (143, .putfield 104, 3, 12000), (146, .aload_n 0, 1, 0), (147, .getfield 104, 3, 12000), (150, .iconst 1, 1, 0), (151, .isub, 1, 0), (152, .ireturn, 1, 0)]]
abbrev cu_18 : List Nat := [110]
theorem dk_18 : am_okd prog_14_method_3_code cd_18 = true := by decide +kernel
abbrev m_Cases_has : Nat := 19
def cd_19 : am_P := [[(0, .iload_n 1, 1, 0), (1, .ifCond .lt 22, 3, 23), (4, .iload_n 1, 1, 0), (5, .aload_n 0, 1, 0), (6, .getfield 27, 3, 1050), (9, .if_icmp .ge 14, 3, 23), (12, .iload_n 1, 1, 0), (13, .sipush 200, 3, 0), (16, .if_icmp .ge 7, 3, 23), (19, .iconst 1, 1, 0), (20, .goto 4, 3, 24), (23, .iconst 0, 1, 0), (24, .ireturn, 1, 1)]]
abbrev cu_19 : List Nat := []
theorem dk_19 : am_okd prog_3_method_2_code cd_19 = true := by decide +kernel
abbrev m_B_isMark : Nat := 20
def cd_20 : am_P := [[(0, .iload_n 0, 1, 0), (1, .ifCond .lt 13, 3, 14), (4, .iload_n 0, 1, 0), (5, .bipush 6, 2, 0), (7, .if_icmp .ge 7, 3, 14), (10, .iconst 1, 1, 0), (11, .goto 4, 3, 15), (14, .iconst 0, 1, 0), (15, .ireturn, 1, 1)]]
abbrev cu_20 : List Nat := []
theorem dk_20 : am_okd prog_1_method_44_code cd_20 = true := by decide +kernel
abbrev m_Cases_markOf : Nat := 21
def cd_21 : am_P := [[(0, .aload_n 0, 1, 0), (1, .iload_n 1, 1, 0), (2, .invokevirtual 37, 3, 78369), (5, .ifCond .eq 24, 3, 29), (8, .iload_n 2, 1, 0), (9, .invokestatic 41, 3, 82239), (12, .ifCond .eq 17, 3, 29), (15, .aload_n 0, 1, 0), (16, .getfield 24, 3, 1042), (19, .iload_n 1, 1, 0), (20, .bipush 6, 2, 0), (22, .imul, 1, 0), (23, .iload_n 2, 1, 0), (24, .iadd, 1, 0), (25, .iaload, 1, 0), (26, .goto 4, 3, 30), (29, .iconst (-1), 1, 0), (30, .ireturn, 1, 0)]]
abbrev cu_21 : List Nat := []
theorem dk_21 : am_okd prog_3_method_8_code cd_21 = true := by decide +kernel
abbrev m_Cases_setMark : Nat := 22
def cd_22 : am_P := [[(0, .aload_n 0, 1, 0), (1, .iload_n 1, 1, 0), (2, .invokevirtual 37, 3, 78369), (5, .ifCond .eq 22, 3, 27), (8, .iload_n 2, 1, 0), (9, .invokestatic 41, 3, 82239), (12, .ifCond .eq 15, 3, 27), (15, .aload_n 0, 1, 0), (16, .getfield 24, 3, 1042), (19, .iload_n 1, 1, 0), (20, .bipush 6, 2, 0), (22, .imul, 1, 0), (23, .iload_n 2, 1, 0), (24, .iadd, 1, 0), (25, .iload_n 3, 1, 0), (26, .iastore, 1, 0), (27, .return_, 1, 0)]]
abbrev cu_22 : List Nat := []
theorem dk_22 : am_okd prog_3_method_9_code cd_22 = true := by decide +kernel
abbrev m_B_mark : Nat := 23
def cd_23 : am_P := [[(0, .aload_n 0, 1, 0), (1, .getfield 10, 3, 11002), (4, .iload_n 1, 1, 0), (5, .invokevirtual 109, 3, 78369), (8, .ifCond .eq 21, 3, 29), (11, .iload_n 2, 1, 0), (12, .invokestatic 112, 3, 82239), (15, .ifCond .eq 14, 3, 29), (18, .iload_n 3, 1, 0), (19, .iconst (-1), 1, 0), (20, .if_icmp .lt 9, 3, 29), (23, .iload_n 3, 1, 0), (24, .bipush 9, 2, 0), (26, .if_icmp .le 6, 3, 32), (29, .bipush (-2), 2, 0), (31, .ireturn, 1, 0), (32, .aload_n 0, 1, 0), (33, .getfield 10, 3, 11002), (36, .iload_n 1, 1, 0), (37, .iload_n 2, 1, 0), (38, .invokevirtual 115, 3, 86817), (41, .istore 4, 2, 0), (43, .aload_n 0, 1, 0), (44, .getfield 10, 3, 11002), (47, .iload_n 1, 1, 0), (48, .iload_n 2, 1, 0), (49, .iload_n 3, 1, 0), (50, .invokevirtual 119, 3, 91137), (53, .iload 4, 2, 0), (55, .ireturn, 1, 0)]]
abbrev cu_23 : List Nat := []
theorem dk_23 : am_okd prog_1_method_3_code cd_23 = true := by decide +kernel
abbrev m_R_isCase : Nat := 24
def cd_24 : am_P := [[(0, .iload_n 1, 1, 0), (1, .ifCond .lt 15, 3, 16), (4, .iload_n 1, 1, 0), (5, .aload_n 0, 1, 0), (6, .getfield 104, 3, 12000), (9, .if_icmp .ge 7, 3, 16), (12, .iconst 1, 1, 0), (13, .goto 4, 3, 17), (16, .iconst 0, 1, 0), (17, .ireturn, 1, 1)]]
abbrev cu_24 : List Nat := []
theorem dk_24 : am_okd prog_14_method_4_code cd_24 = true := by decide +kernel
abbrev m_R_mark : Nat := 25
def cd_25 : am_P := [[(0, .aload_n 0, 1, 0), (1, .iload_n 1, 1, 0), (2, .invokevirtual 117, 3, 98860), (5, .ifCond .eq 29, 3, 34), (8, .iload_n 2, 1, 0), (9, .i2l, 1, 0), (10, .lconst 0, 1, 0), (11, .ldc2_w 121, 3, 5), (14, .invokestatic 107, 3, 70463), (17, .ifCond .eq 17, 3, 34), (20, .iload_n 3, 1, 0), (21, .i2l, 1, 0), (22, .ldc2_w 115, 3, 18446744073709551615), (25, .ldc2_w 123, 3, 9), (28, .invokestatic 107, 3, 70463), (31, .ifCond .ne 6, 3, 37), (34, .bipush (-2), 2, 0), (36, .ireturn, 1, 0), (37, .aload_n 0, 1, 0), (38, .getfield 7, 3, 12012), (41, .bipush 10, 2, 0), (43, .iload_n 1, 1, 0), (44, .imul, 1, 0), (45, .iconst 4, 1, 0), (46, .iadd, 1, 0), (47, .iload_n 2, 1, 0), (48, .iadd, 1, 0), (49, .iaload, 1, 0), (50, .istore 4, 2, 0), (52, .aload_n 0, 1, 0), (53, .getfield 7, 3, 12012), (56, .bipush 10, 2, 0), (58, .iload_n 1, 1, 0), (59, .imul, 1, 0), (60, .iconst 4, 1, 0), (61, .iadd, 1, 0), (62, .iload_n 2, 1, 0), (63, .iadd, 1, 0)],
  [(64, .iload_n 3, 1, 0), (65, .iastore, 1, 0), (66, .iload 4, 2, 0), (68, .ireturn, 1, 0)]]
abbrev cu_25 : List Nat := []
theorem dk_25 : am_okd prog_14_method_5_code cd_25 = true := by decide +kernel
abbrev m_Cases_traitOf : Nat := 26
def cd_26 : am_P := [[(0, .aload_n 0, 1, 0), (1, .iload_n 1, 1, 0), (2, .invokevirtual 37, 3, 78369), (5, .ifCond .eq 12, 3, 17), (8, .aload_n 0, 1, 0), (9, .getfield 9, 3, 1002), (12, .iload_n 1, 1, 0), (13, .iaload, 1, 0), (14, .goto 4, 3, 18), (17, .iconst (-1), 1, 0), (18, .ireturn, 1, 0)]]
abbrev cu_26 : List Nat := []
theorem dk_26 : am_okd prog_3_method_4_code cd_26 = true := by decide +kernel
abbrev m_Cases_officeOf : Nat := 27
def cd_27 : am_P := [[(0, .aload_n 0, 1, 0), (1, .iload_n 1, 1, 0), (2, .invokevirtual 37, 3, 78369), (5, .ifCond .eq 12, 3, 17), (8, .aload_n 0, 1, 0), (9, .getfield 15, 3, 1012), (12, .iload_n 1, 1, 0), (13, .iaload, 1, 0), (14, .goto 4, 3, 18), (17, .iconst (-1), 1, 0), (18, .ireturn, 1, 0)]]
abbrev cu_27 : List Nat := []
theorem dk_27 : am_okd prog_3_method_5_code cd_27 = true := by decide +kernel
abbrev m_Cases_stageOf : Nat := 28
def cd_28 : am_P := [[(0, .aload_n 0, 1, 0), (1, .iload_n 1, 1, 0), (2, .invokevirtual 37, 3, 78369), (5, .ifCond .eq 12, 3, 17), (8, .aload_n 0, 1, 0), (9, .getfield 18, 3, 1022), (12, .iload_n 1, 1, 0), (13, .iaload, 1, 0), (14, .goto 4, 3, 18), (17, .iconst (-1), 1, 0), (18, .ireturn, 1, 0)]]
abbrev cu_28 : List Nat := []
theorem dk_28 : am_okd prog_3_method_6_code cd_28 = true := by decide +kernel
abbrev m_Cases_cameOf : Nat := 29
def cd_29 : am_P := [[(0, .aload_n 0, 1, 0), (1, .iload_n 1, 1, 0), (2, .invokevirtual 37, 3, 78369), (5, .ifCond .eq 12, 3, 17), (8, .aload_n 0, 1, 0), (9, .getfield 21, 3, 1032), (12, .iload_n 1, 1, 0), (13, .iaload, 1, 0), (14, .goto 4, 3, 18), (17, .iconst (-1), 1, 0), (18, .ireturn, 1, 0)]]
abbrev cu_29 : List Nat := []
theorem dk_29 : am_okd prog_3_method_7_code cd_29 = true := by decide +kernel
abbrev m_B_told : Nat := 30
def cd_30 : am_P := [[(0, .aload_n 0, 1, 0), (1, .getfield 10, 3, 11002), (4, .iload_n 1, 1, 0), (5, .invokevirtual 109, 3, 78369), (8, .ifCond .ne 6, 3, 14), (11, .bipush (-2), 2, 0), (13, .ireturn, 1, 0), (14, .iload_n 2, 1, 0), (15, .tableswitch 65 0 3 #[29, 38, 47, 56], 29, 0), (44, .aload_n 0, 1, 0), (45, .getfield 10, 3, 11002), (48, .iload_n 1, 1, 0), (49, .invokevirtual 123, 3, 107041), (52, .ireturn, 1, 0), (53, .aload_n 0, 1, 0), (54, .getfield 10, 3, 11002), (57, .iload_n 1, 1, 0), (58, .invokevirtual 127, 3, 111137), (61, .ireturn, 1, 0), (62, .aload_n 0, 1, 0), (63, .getfield 10, 3, 11002)],
  [(66, .iload_n 1, 1, 0), (67, .invokevirtual 130, 3, 115233), (70, .ireturn, 1, 0), (71, .aload_n 0, 1, 0), (72, .getfield 10, 3, 11002), (75, .iload_n 1, 1, 0), (76, .invokevirtual 133, 3, 119329), (79, .ireturn, 1, 0), (80, .iload_n 2, 1, 0), (81, .iconst 4, 1, 0), (82, .if_icmp .lt 26, 3, 108), (85, .iload_n 2, 1, 0), (86, .iconst 4, 1, 0), (87, .isub, 1, 0), (88, .invokestatic 112, 3, 82239), (91, .ifCond .eq 17, 3, 108), (94, .aload_n 0, 1, 0), (95, .getfield 10, 3, 11002), (98, .iload_n 1, 1, 0), (99, .iload_n 2, 1, 0), (100, .iconst 4, 1, 0), (101, .isub, 1, 0), (102, .invokevirtual 115, 3, 86817), (105, .goto 5, 3, 110), (108, .bipush (-2), 2, 0), (110, .ireturn, 1, 0)]]
abbrev cu_30 : List Nat := []
theorem dk_30 : am_okd prog_1_method_4_code cd_30 = true := by decide +kernel
abbrev m_R_told : Nat := 31
def cd_31 : am_P := [[(0, .aload_n 0, 1, 0), (1, .iload_n 1, 1, 0), (2, .invokevirtual 117, 3, 98860), (5, .ifCond .eq 29, 3, 34), (8, .iload_n 2, 1, 0), (9, .i2l, 1, 0), (10, .lconst 0, 1, 0), (11, .ldc2_w 123, 3, 9), (14, .invokestatic 107, 3, 70463), (17, .ifCond .eq 17, 3, 34), (20, .aload_n 0, 1, 0), (21, .getfield 7, 3, 12012), (24, .bipush 10, 2, 0), (26, .iload_n 1, 1, 0), (27, .imul, 1, 0), (28, .iload_n 2, 1, 0), (29, .iadd, 1, 0), (30, .iaload, 1, 0), (31, .goto 5, 3, 36), (34, .bipush (-2), 2, 0), (36, .ireturn, 1, 0)]]
abbrev cu_31 : List Nat := []
theorem dk_31 : am_okd prog_14_method_6_code cd_31 = true := by decide +kernel
abbrev m_Reader_append : Nat := 32
def cd_32 : am_P := [[(0, .bipush 24, 2, 0), (2, .istore_n 2, 1, 0), (3, .iload_n 2, 1, 0), (4, .ifCond .lt 52, 3, 56), (7, .aload_n 0, 1, 0), (8, .getfield 32, 3, 6010), (11, .ifCond .lt 39, 3, 50), (14, .aload_n 0, 1, 0), (15, .getfield 32, 3, 6010), (18, .sipush 400, 3, 0), (21, .if_icmp .ge 29, 3, 50), (24, .aload_n 0, 1, 0), (25, .getfield 11, 3, 6002), (28, .aload_n 0, 1, 0), (29, .getfield 32, 3, 6010), (32, .iload_n 1, 1, 0), (33, .iload_n 2, 1, 0), (34, .iushr, 1, 0), (35, .sipush 255, 3, 0), (38, .iand, 1, 0), (39, .iastore, 1, 0), (40, .aload_n 0, 1, 0), (41, .dup, 1, 0), (42, .getfield 32, 3, 6010), (45, .iconst 1, 1, 0), (46, .iadd, 1, 0), (47, .putfield 32, 3, 6010), (50, .iinc 2 (-8), 3, 0), (53, .goto (-50), 3, 3), (56, .return_, 1, 0)]]
abbrev cu_32 : List Nat := [3]
theorem dk_32 : am_okd prog_8_method_2_code cd_32 = true := by decide +kernel
abbrev m_B_feed : Nat := 33
def cd_33 : am_P := [[(0, .aload_n 0, 1, 0), (1, .getfield 34, 3, 11042), (4, .getfield 136, 3, 6010), (7, .sipush 380, 3, 0), (10, .if_icmp .le 5, 3, 15), (13, .iconst (-1), 1, 0), (14, .ireturn, 1, 0), (15, .aload_n 0, 1, 0), (16, .getfield 34, 3, 11042), (19, .iload_n 1, 1, 0), (20, .invokevirtual 140, 3, 131590), (23, .aload_n 0, 1, 0), (24, .getfield 34, 3, 11042), (27, .iload_n 2, 1, 0), (28, .invokevirtual 140, 3, 131590), (31, .aload_n 0, 1, 0), (32, .getfield 34, 3, 11042), (35, .iload_n 3, 1, 0), (36, .invokevirtual 140, 3, 131590), (39, .aload_n 0, 1, 0), (40, .getfield 34, 3, 11042), (43, .iload 4, 2, 0), (45, .invokevirtual 140, 3, 131590), (48, .aload_n 0, 1, 0), (49, .getfield 34, 3, 11042), (52, .iload 5, 2, 0), (54, .invokevirtual 140, 3, 131590), (57, .aload_n 0, 1, 0), (58, .getfield 34, 3, 11042), (61, .getfield 136, 3, 6010)],
  [(64, .ireturn, 1, 0)]]
abbrev cu_33 : List Nat := []
theorem dk_33 : am_okd prog_1_method_5_code cd_33 = true := by decide +kernel
abbrev m_R_four : Nat := 34
def cd_34 : am_P := [[(0, .bipush 24, 2, 0), (2, .istore_n 2, 1, 0), (3, .iload_n 2, 1, 0), (4, .ifCond .lt 32, 3, 36), (7, .aload_n 0, 1, 0), (8, .getfield 16, 3, 12042), (11, .aload_n 0, 1, 0), (12, .getfield 125, 3, 12050), (15, .iload_n 1, 1, 0), (16, .iload_n 2, 1, 0), (17, .ishr, 1, 0), (18, .i2b, 1, 0), (19, .bastore, 1, 0), (20, .aload_n 0, 1, 0), (21, .dup, 1, 0), (22, .getfield 125, 3, 12050), (25, .iconst 1, 1, 0), (26, .iadd, 1, 0), (27, .putfield 125, 3, 12050), (30, .iinc 2 (-8), 3, 0), (33, .goto (-30), 3, 3), (36, .return_, 1, 0)]]
abbrev cu_34 : List Nat := [3]
theorem dk_34 : am_okd prog_14_method_10_code cd_34 = true := by decide +kernel
abbrev m_R_feed : Nat := 35
def cd_35 : am_P := [[(0, .aload_n 0, 1, 0), (1, .getfield 125, 3, 12050), (4, .bipush 20, 2, 0), (6, .iadd, 1, 0), (7, .sipush 400, 3, 0), (10, .if_icmp .le 5, 3, 15), (13, .iconst (-1), 1, 0), (14, .ireturn, 1, 0), (15, .aload_n 0, 1, 0), (16, .iload_n 1, 1, 0), (17, .invokevirtual 128, 3, 139788), (20, .aload_n 0, 1, 0), (21, .iload_n 2, 1, 0), (22, .invokevirtual 128, 3, 139788), (25, .aload_n 0, 1, 0), (26, .iload_n 3, 1, 0), (27, .invokevirtual 128, 3, 139788), (30, .aload_n 0, 1, 0), (31, .iload 4, 2, 0), (33, .invokevirtual 128, 3, 139788), (36, .aload_n 0, 1, 0), (37, .iload 5, 2, 0), (39, .invokevirtual 128, 3, 139788), (42, .aload_n 0, 1, 0), (43, .getfield 125, 3, 12050), (46, .ireturn, 1, 0)]]
abbrev cu_35 : List Nat := []
theorem dk_35 : am_okd prog_14_method_11_code cd_35 = true := by decide +kernel
abbrev m_B_end : Nat := 36
def cd_36 : am_P := [[(0, .iload_n 1, 1, 0), (1, .ifCond .lt 14, 3, 15), (4, .iload_n 1, 1, 0), (5, .aload_n 0, 1, 0), (6, .getfield 34, 3, 11042), (9, .getfield 136, 3, 6010), (12, .if_icmp .le 5, 3, 17), (15, .iconst (-1), 1, 0), (16, .ireturn, 1, 0), (17, .aload_n 0, 1, 0), (18, .getfield 34, 3, 11042), (21, .iload_n 1, 1, 0), (22, .putfield 136, 3, 6010), (25, .iload_n 1, 1, 0), (26, .ireturn, 1, 0)]]
abbrev cu_36 : List Nat := []
theorem dk_36 : am_okd prog_1_method_6_code cd_36 = true := by decide +kernel
abbrev m_R_end : Nat := 37
def cd_37 : am_P := [[(0, .iload_n 1, 1, 0), (1, .ifCond .lt 11, 3, 12), (4, .iload_n 1, 1, 0), (5, .aload_n 0, 1, 0), (6, .getfield 125, 3, 12050), (9, .if_icmp .le 5, 3, 14), (12, .iconst (-1), 1, 0), (13, .ireturn, 1, 0), (14, .aload_n 0, 1, 0), (15, .iload_n 1, 1, 0), (16, .putfield 125, 3, 12050), (19, .iload_n 1, 1, 0), (20, .ireturn, 1, 0)]]
abbrev cu_37 : List Nat := []
theorem dk_37 : am_okd prog_14_method_12_code cd_37 = true := by decide +kernel
abbrev m_Reader_byteAt : Nat := 38
def cd_38 : am_P := [[(0, .iload_n 1, 1, 0), (1, .ifCond .lt 27, 3, 28), (4, .iload_n 1, 1, 0), (5, .aload_n 0, 1, 0), (6, .getfield 32, 3, 6010), (9, .if_icmp .ge 19, 3, 28), (12, .iload_n 1, 1, 0), (13, .sipush 400, 3, 0), (16, .if_icmp .ge 12, 3, 28), (19, .aload_n 0, 1, 0), (20, .getfield 11, 3, 6002), (23, .iload_n 1, 1, 0), (24, .iaload, 1, 0), (25, .goto 4, 3, 29), (28, .iconst (-1), 1, 0), (29, .ireturn, 1, 0)]]
abbrev cu_38 : List Nat := []
theorem dk_38 : am_okd prog_8_method_3_code cd_38 = true := by decide +kernel
abbrev m_Reader_isLetter : Nat := 39
def cd_39 : am_P := [[(0, .iload_n 0, 1, 0), (1, .bipush 97, 2, 0), (3, .if_icmp .lt 13, 3, 16), (6, .iload_n 0, 1, 0), (7, .bipush 122, 2, 0), (9, .if_icmp .gt 7, 3, 16), (12, .iconst 1, 1, 0), (13, .goto 4, 3, 17), (16, .iconst 0, 1, 0), (17, .ireturn, 1, 1)]]
abbrev cu_39 : List Nat := []
theorem dk_39 : am_okd prog_8_method_11_code cd_39 = true := by decide +kernel
abbrev m_Reader_isDigit : Nat := 40
def cd_40 : am_P := [[(0, .iload_n 0, 1, 0), (1, .bipush 48, 2, 0), (3, .if_icmp .lt 13, 3, 16), (6, .iload_n 0, 1, 0), (7, .bipush 57, 2, 0), (9, .if_icmp .gt 7, 3, 16), (12, .iconst 1, 1, 0), (13, .goto 4, 3, 17), (16, .iconst 0, 1, 0), (17, .ireturn, 1, 1)]]
abbrev cu_40 : List Nat := []
theorem dk_40 : am_okd prog_8_method_12_code cd_40 = true := by decide +kernel
abbrev m_jS_coder : Nat := 41
def cd_41 : am_P := [[(0, .getstatic 38, 3, 1), (3, .ifCond .eq 10, 3, 13), (6, .aload_n 0, 1, 0), (7, .getfield 15, 3, 6), (10, .goto 4, 3, 14), (13, .iconst 1, 1, 0), (14, .ireturn, 1, 2)]]
abbrev cu_41 : List Nat := []
theorem dk_41 : am_okd prog_18_method_152_code cd_41 = true := by decide +kernel
abbrev m_jS_length : Nat := 42
def cd_42 : am_P := [[(0, .aload_n 0, 1, 0), (1, .getfield 9, 3, 5), (4, .arraylength, 1, 0), (5, .aload_n 0, 1, 0), (6, .invokevirtual 335, 3, 168254), (9, .ishr, 1, 0), (10, .ireturn, 1, 0)]]
abbrev cu_42 : List Nat := []
theorem dk_42 : am_okd prog_18_method_54_code cd_42 = true := by decide +kernel
abbrev m_jS_isLatin1 : Nat := 43
def cd_43 : am_P := [[(0, .getstatic 38, 3, 1), (3, .ifCond .eq 14, 3, 17), (6, .aload_n 0, 1, 0), (7, .getfield 15, 3, 6), (10, .ifCond .ne 7, 3, 17), (13, .iconst 1, 1, 0), (14, .goto 4, 3, 18), (17, .iconst 0, 1, 0), (18, .ireturn, 1, 1)]]
abbrev cu_43 : List Nat := []
theorem dk_43 : am_okd prog_18_method_154_code cd_43 = true := by decide +kernel
abbrev m_jP_checkIndex : Nat := 44
def cd_44 : am_P := [[(0, .iload_n 0, 1, 0), (1, .ifCond .lt 8, 3, 9), (4, .iload_n 0, 1, 0), (5, .iload_n 1, 1, 0), (6, .if_icmp .lt 10, 3, 16), (9, .aload_n 2, 1, 0), (10, .iload_n 0, 1, 0), (11, .iload_n 1, 1, 0), (16, .iload_n 0, 1, 0), (17, .ireturn, 1, 0)]]
abbrev cu_44 : List Nat := []
theorem dk_44 : am_okd prog_23_method_11_code cd_44 = true := by decide +kernel
abbrev m_jS_checkIndex : Nat := 45
def cd_45 : am_P := [[(0, .iload_n 0, 1, 0), (1, .iload_n 1, 1, 0), (2, .getstatic 1053, 3, 103), (5, .invokestatic 1059, 3, 181055), (8, .pop, 1, 0), (9, .return_, 1, 0)]]
abbrev cu_45 : List Nat := []
theorem dk_45 : am_okd prog_18_method_155_code cd_45 = true := by decide +kernel
abbrev m_jL_charAt : Nat := 46
def cd_46 : am_P := [[(0, .iload_n 1, 1, 0), (1, .aload_n 0, 1, 0), (2, .arraylength, 1, 0), (3, .invokestatic 9, 3, 184863), (6, .aload_n 0, 1, 0), (7, .iload_n 1, 1, 0), (8, .baload, 1, 0), (9, .sipush 255, 3, 0), (12, .iand, 1, 0), (13, .i2c, 1, 0), (14, .ireturn, 1, 3)]]
abbrev cu_46 : List Nat := []
theorem dk_46 : am_okd prog_19_method_2_code cd_46 = true := by decide +kernel
abbrev m_jS_charAt : Nat := 47
def cd_47 : am_P := [[(0, .aload_n 0, 1, 0), (1, .invokevirtual 492, 3, 176446), (4, .ifCond .eq 12, 3, 16), (7, .aload_n 0, 1, 0), (8, .getfield 9, 3, 5), (11, .iload_n 1, 1, 0), (12, .invokestatic 495, 3, 188991), (15, .ireturn, 1, 3), (16, .aload_n 0, 1, 0), (17, .getfield 9, 3, 5), (20, .iload_n 1, 1, 0), (24, .ireturn, 1, 3)]]
abbrev cu_47 : List Nat := []
theorem dk_47 : am_okd prog_18_method_56_code cd_47 = true := by decide +kernel
abbrev m_Reader_wordOf : Nat := 48
def cd_48 : am_P := [[(0, .iconst 0, 1, 0), (1, .istore_n 3, 1, 0), (2, .iconst 0, 1, 0), (3, .istore 4, 2, 0), (5, .iconst 1, 1, 0), (6, .istore 5, 2, 0), (8, .iconst 0, 1, 0), (9, .istore 6, 2, 0), (11, .iload 6, 2, 0), (13, .ldc 92, 2, 4294967297), (15, .invokevirtual 94, 3, 172350), (18, .if_icmp .ge 87, 3, 105), (21, .ldc 92, 2, 4294967297), (23, .iload 6, 2, 0), (25, .invokevirtual 98, 3, 193086), (28, .bipush 32, 2, 0), (30, .if_icmp .eq 39, 3, 69), (33, .iload 5, 2, 0), (35, .ifCond .eq 28, 3, 63), (38, .aload_n 0, 1, 0), (39, .iload_n 1, 1, 0), (40, .iload 6, 2, 0), (42, .iadd, 1, 0), (43, .iload 4, 2, 0), (45, .isub, 1, 0), (46, .invokevirtual 75, 3, 156198), (49, .ldc 92, 2, 4294967297), (51, .iload 6, 2, 0), (53, .invokevirtual 98, 3, 193086), (56, .if_icmp .ne 7, 3, 63), (59, .iconst 1, 1, 0), (60, .goto 4, 3, 64), (63, .iconst 0, 1, 0)],
  [(64, .istore 5, 2, 0), (66, .goto 33, 3, 99), (69, .iload 5, 2, 0), (71, .ifCond .eq 16, 3, 87), (74, .iload 6, 2, 0), (76, .iload 4, 2, 0), (78, .isub, 1, 0), (79, .iload_n 2, 1, 0), (80, .iload_n 1, 1, 0), (81, .isub, 1, 0), (82, .if_icmp .ne 5, 3, 87), (85, .iload_n 3, 1, 0), (86, .ireturn, 1, 0), (87, .iinc 3 1, 3, 0), (90, .iload 6, 2, 0), (92, .iconst 1, 1, 0), (93, .iadd, 1, 0), (94, .istore 4, 2, 0), (96, .iconst 1, 1, 0), (97, .istore 5, 2, 0), (99, .iinc 6 1, 3, 0), (102, .goto (-91), 3, 11), (105, .sipush 203, 3, 0), (108, .ireturn, 1, 0)]]
abbrev cu_48 : List Nat := [11]
theorem dk_48 : am_okd prog_8_method_9_code cd_48 = true := by decide +kernel
abbrev m_Reader_put : Nat := 49
def cd_49 : am_P := [[(0, .aload_n 0, 1, 0), (1, .getfield 64, 3, 6050), (4, .ifCond .lt 53, 3, 57), (7, .aload_n 0, 1, 0), (8, .getfield 64, 3, 6050), (11, .sipush 400, 3, 0), (14, .if_icmp .gt 43, 3, 57), (17, .aload_n 0, 1, 0), (18, .getfield 17, 3, 6022), (21, .aload_n 0, 1, 0), (22, .getfield 64, 3, 6050), (25, .iload_n 1, 1, 0), (26, .iastore, 1, 0), (27, .aload_n 0, 1, 0), (28, .getfield 20, 3, 6032), (31, .aload_n 0, 1, 0), (32, .getfield 64, 3, 6050), (35, .iload_n 2, 1, 0), (36, .iastore, 1, 0), (37, .aload_n 0, 1, 0), (38, .getfield 23, 3, 6042), (41, .aload_n 0, 1, 0), (42, .getfield 64, 3, 6050), (45, .iload_n 3, 1, 0), (46, .iastore, 1, 0), (47, .aload_n 0, 1, 0), (48, .dup, 1, 0), (49, .getfield 64, 3, 6050), (52, .iconst 1, 1, 0), (53, .iadd, 1, 0), (54, .putfield 64, 3, 6050), (57, .return_, 1, 0)]]
abbrev cu_49 : List Nat := []
theorem dk_49 : am_okd prog_8_method_10_code cd_49 = true := by decide +kernel
abbrev m_Reader_scanNumber : Nat := 50
def cd_50 : am_P := [[(0, .iload_n 1, 1, 0), (1, .istore_n 2, 1, 0), (2, .iconst 0, 1, 0), (3, .istore_n 3, 1, 0), (4, .iload_n 2, 1, 0), (5, .sipush 400, 3, 0), (8, .if_icmp .ge 41, 3, 49), (11, .aload_n 0, 1, 0), (12, .iload_n 2, 1, 0), (13, .invokevirtual 75, 3, 156198), (16, .invokestatic 82, 3, 164159), (19, .ifCond .eq 30, 3, 49), (22, .iload_n 2, 1, 0), (23, .iload_n 1, 1, 0), (24, .iconst 4, 1, 0), (25, .iadd, 1, 0), (26, .if_icmp .ge 17, 3, 43), (29, .iload_n 3, 1, 0), (30, .bipush 10, 2, 0), (32, .imul, 1, 0), (33, .aload_n 0, 1, 0), (34, .iload_n 2, 1, 0), (35, .invokevirtual 75, 3, 156198), (38, .iadd, 1, 0), (39, .bipush 48, 2, 0), (41, .isub, 1, 0), (42, .istore_n 3, 1, 0), (43, .iinc 2 1, 3, 0), (46, .goto (-42), 3, 4), (49, .aload_n 0, 1, 0), (50, .sipush 200, 3, 0), (53, .iload_n 2, 1, 0), (54, .iload_n 1, 1, 0), (55, .isub, 1, 0), (56, .iconst 4, 1, 0), (57, .if_icmp .le 7, 3, 64), (60, .iconst (-1), 1, 0), (61, .goto 4, 3, 65)],
  [(64, .iload_n 3, 1, 0), (65, .iload_n 1, 1, 0), (66, .invokevirtual 71, 3, 201734), (69, .iload_n 2, 1, 0), (70, .ireturn, 1, 0)]]
abbrev cu_50 : List Nat := [4]
theorem dk_50 : am_okd prog_8_method_8_code cd_50 = true := by decide +kernel
abbrev m_Reader_scan : Nat := 51
def cd_51 : am_P := [[(0, .aload_n 0, 1, 0), (1, .iload_n 1, 1, 0), (2, .invokevirtual 75, 3, 156198), (5, .istore_n 2, 1, 0), (6, .iload_n 2, 1, 0), (7, .bipush 32, 2, 0), (9, .if_icmp .ne 7, 3, 16), (12, .iload_n 1, 1, 0), (13, .iconst 1, 1, 0), (14, .iadd, 1, 0), (15, .ireturn, 1, 0), (16, .iload_n 2, 1, 0), (17, .invokestatic 78, 3, 160063), (20, .ifCond .eq 54, 3, 74), (23, .iload_n 1, 1, 0), (24, .istore_n 3, 1, 0), (25, .iload_n 3, 1, 0), (26, .sipush 400, 3, 0), (29, .if_icmp .ge 31, 3, 60), (32, .aload_n 0, 1, 0), (33, .iload_n 3, 1, 0), (34, .invokevirtual 75, 3, 156198), (37, .invokestatic 78, 3, 160063), (40, .ifCond .ne 14, 3, 54), (43, .aload_n 0, 1, 0), (44, .iload_n 3, 1, 0), (45, .invokevirtual 75, 3, 156198), (48, .invokestatic 82, 3, 164159), (51, .ifCond .eq 9, 3, 60), (54, .iinc 3 1, 3, 0), (57, .goto (-32), 3, 25), (60, .aload_n 0, 1, 0), (61, .aload_n 0, 1, 0), (62, .iload_n 1, 1, 0), (63, .iload_n 3, 1, 0)],
  [(64, .invokevirtual 85, 3, 197414), (67, .iconst 0, 1, 0), (68, .iload_n 1, 1, 0), (69, .invokevirtual 71, 3, 201734), (72, .iload_n 3, 1, 0), (73, .ireturn, 1, 0), (74, .iload_n 2, 1, 0), (75, .invokestatic 82, 3, 164159), (78, .ifCond .eq 9, 3, 87), (81, .aload_n 0, 1, 0), (82, .iload_n 1, 1, 0), (83, .invokevirtual 89, 3, 205350), (86, .ireturn, 1, 0), (87, .iload_n 2, 1, 0), (88, .bipush 60, 2, 0), (90, .if_icmp .eq 9, 3, 99), (93, .iload_n 2, 1, 0), (94, .bipush 62, 2, 0), (96, .if_icmp .ne 40, 3, 136), (99, .aload_n 0, 1, 0), (100, .iload_n 1, 1, 0), (101, .iconst 1, 1, 0), (102, .iadd, 1, 0), (103, .invokevirtual 75, 3, 156198), (106, .bipush 61, 2, 0), (108, .if_icmp .ne 28, 3, 136), (111, .aload_n 0, 1, 0), (112, .iload_n 2, 1, 0), (113, .bipush 60, 2, 0), (115, .if_icmp .ne 9, 3, 124), (118, .sipush 201, 3, 0), (121, .goto 6, 3, 127), (124, .sipush 202, 3, 0), (127, .iconst 0, 1, 0)],
  [(128, .iload_n 1, 1, 0), (129, .invokevirtual 71, 3, 201734), (132, .iload_n 1, 1, 0), (133, .iconst 2, 1, 0), (134, .iadd, 1, 0), (135, .ireturn, 1, 0), (136, .iload_n 2, 1, 0), (137, .bipush 59, 2, 0), (139, .if_icmp .eq 45, 3, 184), (142, .iload_n 2, 1, 0), (143, .bipush 91, 2, 0), (145, .if_icmp .eq 39, 3, 184), (148, .iload_n 2, 1, 0), (149, .bipush 93, 2, 0), (151, .if_icmp .eq 33, 3, 184), (154, .iload_n 2, 1, 0), (155, .bipush 43, 2, 0), (157, .if_icmp .eq 27, 3, 184), (160, .iload_n 2, 1, 0), (161, .bipush 45, 2, 0), (163, .if_icmp .eq 21, 3, 184), (166, .iload_n 2, 1, 0), (167, .bipush 60, 2, 0), (169, .if_icmp .eq 15, 3, 184), (172, .iload_n 2, 1, 0), (173, .bipush 61, 2, 0), (175, .if_icmp .eq 9, 3, 184), (178, .iload_n 2, 1, 0), (179, .bipush 62, 2, 0), (181, .if_icmp .ne 7, 3, 188), (184, .iconst 1, 1, 0), (185, .goto 4, 3, 189), (188, .iconst 0, 1, 0), (189, .istore_n 3, 1, 0), (190, .aload_n 0, 1, 0), (191, .iload_n 3, 1, 0)],
  [(192, .ifCond .eq 7, 3, 199), (195, .iload_n 2, 1, 0), (196, .goto 6, 3, 202), (199, .sipush 203, 3, 0), (202, .iconst 0, 1, 0), (203, .iload_n 1, 1, 0), (204, .invokevirtual 71, 3, 201734), (207, .iload_n 1, 1, 0), (208, .iconst 1, 1, 0), (209, .iadd, 1, 0), (210, .ireturn, 1, 0)]]
abbrev cu_51 : List Nat := [25]
theorem dk_51 : am_okd prog_8_method_7_code cd_51 = true := by decide +kernel
abbrev m_Reader_scanAll : Nat := 52
def cd_52 : am_P := [[(0, .aload_n 0, 1, 0), (1, .iconst 0, 1, 0), (2, .putfield 64, 3, 6050), (5, .aload_n 0, 1, 0), (6, .iconst 0, 1, 0), (7, .putfield 53, 3, 6060), (10, .aload_n 0, 1, 0), (11, .iconst 0, 1, 0), (12, .putfield 46, 3, 6130), (15, .iconst 0, 1, 0), (16, .istore_n 1, 1, 0), (17, .iconst 0, 1, 0), (18, .istore_n 2, 1, 0), (19, .iload_n 2, 1, 0), (20, .sipush 400, 3, 0), (23, .if_icmp .ge 23, 3, 46), (26, .iload_n 1, 1, 0), (27, .aload_n 0, 1, 0), (28, .getfield 32, 3, 6010), (31, .if_icmp .ge 15, 3, 46), (34, .aload_n 0, 1, 0), (35, .iload_n 1, 1, 0), (36, .invokevirtual 67, 3, 209446), (39, .istore_n 1, 1, 0), (40, .iinc 2 1, 3, 0), (43, .goto (-24), 3, 19), (46, .aload_n 0, 1, 0), (47, .sipush 204, 3, 0), (50, .iconst 0, 1, 0), (51, .aload_n 0, 1, 0), (52, .getfield 32, 3, 6010), (55, .invokevirtual 71, 3, 201734), (58, .return_, 1, 0)]]
abbrev cu_52 : List Nat := [19]
theorem dk_52 : am_okd prog_8_method_6_code cd_52 = true := by decide +kernel
abbrev m_View_init : Nat := 53
def cd_53 : am_P := [[(0, .aload_n 0, 1, 0), (1, .invokespecial 3, 3, 999), (4, .aload_n 0, 1, 0), (5, .bipush 6, 2, 0), (7, .newarray .int, 2, 0), (9, .putfield 9, 3, 10032), (12, .aload_n 0, 1, 0), (13, .iconst (-1), 1, 0), (14, .putfield 15, 3, 10040), (17, .return_, 1, 0)]]
abbrev cu_53 : List Nat := []
theorem dk_53 : am_okd prog_12_method_1_code cd_53 = true := by decide +kernel
abbrev m_Reader_kind : Nat := 54
def cd_54 : am_P := [[(0, .aload_n 0, 1, 0), (1, .getfield 53, 3, 6060), (4, .ifCond .lt 36, 3, 40), (7, .aload_n 0, 1, 0), (8, .getfield 53, 3, 6060), (11, .aload_n 0, 1, 0), (12, .getfield 64, 3, 6050), (15, .if_icmp .ge 25, 3, 40), (18, .aload_n 0, 1, 0), (19, .getfield 53, 3, 6060), (22, .sipush 400, 3, 0), (25, .if_icmp .gt 15, 3, 40), (28, .aload_n 0, 1, 0), (29, .getfield 17, 3, 6022), (32, .aload_n 0, 1, 0), (33, .getfield 53, 3, 6060), (36, .iaload, 1, 0), (37, .goto 6, 3, 43), (40, .sipush 204, 3, 0), (43, .ireturn, 1, 0)]]
abbrev cu_54 : List Nat := []
theorem dk_54 : am_okd prog_8_method_13_code cd_54 = true := by decide +kernel
abbrev m_Reader_blame : Nat := 55
def cd_55 : am_P := [[(0, .aload_n 0, 1, 0), (1, .getfield 46, 3, 6130), (4, .ifCond .ne 60, 3, 64), (7, .aload_n 0, 1, 0), (8, .getfield 53, 3, 6060), (11, .ifCond .lt 36, 3, 47), (14, .aload_n 0, 1, 0), (15, .getfield 53, 3, 6060), (18, .aload_n 0, 1, 0), (19, .getfield 64, 3, 6050), (22, .if_icmp .ge 25, 3, 47), (25, .aload_n 0, 1, 0), (26, .getfield 53, 3, 6060), (29, .sipush 400, 3, 0), (32, .if_icmp .gt 15, 3, 47), (35, .aload_n 0, 1, 0), (36, .getfield 23, 3, 6042), (39, .aload_n 0, 1, 0), (40, .getfield 53, 3, 6060), (43, .iaload, 1, 0), (44, .goto 7, 3, 51), (47, .aload_n 0, 1, 0), (48, .getfield 32, 3, 6010), (51, .istore_n 2, 1, 0), (52, .aload_n 0, 1, 0), (53, .iconst 1, 1, 0), (54, .bipush 8, 2, 0), (56, .iload_n 2, 1, 0), (57, .imul, 1, 0), (58, .iadd, 1, 0), (59, .iload_n 1, 1, 0), (60, .iadd, 1, 0), (61, .putfield 46, 3, 6130)],
  [(64, .return_, 1, 0)]]
abbrev cu_55 : List Nat := []
theorem dk_55 : am_okd prog_8_method_15_code cd_55 = true := by decide +kernel
abbrev m_Reader_await : Nat := 56
def cd_56 : am_P := [[(0, .aload_n 0, 1, 0), (1, .getfield 140, 3, 6120), (4, .ifCond .lt 33, 3, 37), (7, .aload_n 0, 1, 0), (8, .getfield 140, 3, 6120), (11, .sipush 400, 3, 0), (14, .if_icmp .ge 23, 3, 37), (17, .aload_n 0, 1, 0), (18, .getfield 29, 3, 6112), (21, .aload_n 0, 1, 0), (22, .getfield 140, 3, 6120), (25, .iload_n 1, 1, 0), (26, .iastore, 1, 0), (27, .aload_n 0, 1, 0), (28, .dup, 1, 0), (29, .getfield 140, 3, 6120), (32, .iconst 1, 1, 0), (33, .iadd, 1, 0), (34, .putfield 140, 3, 6120), (37, .aload_n 0, 1, 0), (38, .dup, 1, 0), (39, .getfield 53, 3, 6060), (42, .iconst 1, 1, 0), (43, .iadd, 1, 0), (44, .putfield 53, 3, 6060), (47, .return_, 1, 0)]]
abbrev cu_56 : List Nat := []
theorem dk_56 : am_okd prog_8_method_21_code cd_56 = true := by decide +kernel
abbrev m_Reader_open : Nat := 57
def cd_57 : am_P := [[(0, .iconst 0, 1, 0), (1, .istore_n 2, 1, 0), (2, .iconst 0, 1, 0), (3, .istore_n 3, 1, 0), (4, .iload_n 3, 1, 0), (5, .aload_n 0, 1, 0), (6, .getfield 140, 3, 6120), (9, .if_icmp .ge 40, 3, 49), (12, .iload_n 3, 1, 0), (13, .sipush 400, 3, 0), (16, .if_icmp .ge 33, 3, 49), (19, .aload_n 0, 1, 0), (20, .getfield 29, 3, 6112), (23, .iload_n 3, 1, 0), (24, .iaload, 1, 0), (25, .bipush 6, 2, 0), (27, .if_icmp .eq 13, 3, 40), (30, .aload_n 0, 1, 0), (31, .getfield 29, 3, 6112), (34, .iload_n 3, 1, 0), (35, .iaload, 1, 0), (36, .iconst 3, 1, 0), (37, .if_icmp .ne 6, 3, 43), (40, .iinc 2 1, 3, 0), (43, .iinc 3 1, 3, 0), (46, .goto (-42), 3, 4), (49, .iload_n 2, 1, 0), (50, .bipush 10, 2, 0), (52, .if_icmp .lt 8, 3, 60), (55, .aload_n 0, 1, 0), (56, .iconst 2, 1, 0), (57, .invokevirtual 56, 3, 225798), (60, .aload_n 0, 1, 0), (61, .iload_n 1, 1, 0), (62, .invokevirtual 162, 3, 229894)],
  [(65, .return_, 1, 0)]]
abbrev cu_57 : List Nat := [4]
theorem dk_57 : am_okd prog_8_method_20_code cd_57 = true := by decide +kernel
