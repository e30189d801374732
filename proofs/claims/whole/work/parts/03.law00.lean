def cd_289_0 : List (Nat × Instr × Nat × Nat) := [(0, .new 7, 3, 11), (3, .dup, 1, 0), (4, .invokespecial 9, 3, 37151), (7, .astore_n 1, 1, 0), (8, .new 10, 3, 12), (11, .dup, 1, 0), (12, .invokespecial 12, 3, 41247), (15, .astore_n 2, 1, 0), (16, .iconst 0, 1, 0), (17, .istore_n 3, 1, 0), (18, .iload_n 3, 1, 0), (19, .aload_n 0, 1, 0), (20, .arraylength, 1, 0), (21, .bipush 6, 2, 0), (23, .isub, 1, 0), (24, .if_icmp .gt 1631, 3, 1655), (27, .aload_n 0, 1, 0), (28, .iload_n 3, 1, 0), (29, .iaload, 1, 0), (30, .bipush 63, 2, 0), (32, .iand, 1, 0), (33, .tableswitch 1616 0 37 #[167, 220, 263, 296, 359, 382, 395, 408, 441, 474, 517, 550, 584, 627, 650, 683, 706, 739, 814, 847, 881, 925, 948, 1001, 1054, 1107, 1140, 1173, 1216, 1259, 1322, 1385, 1418, 1461, 1504, 1547, 1570, 1593], 167, 0)]
theorem dk_289_0 : am_okd code [cd_289_0] = true := by decide +kernel
def cd_289_1 : List (Nat × Instr × Nat × Nat) := []
theorem dk_289_1 : am_okd code [cd_289_1] = true := by decide +kernel
def cd_289_2 : List (Nat × Instr × Nat × Nat) := []
theorem dk_289_2 : am_okd code [cd_289_2] = true := by decide +kernel
