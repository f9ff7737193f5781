/-! ===== the methods: 320 tables (wip/whole/gen.py) ===== -/
-- LaneEyes$Live.<init>()V
set_option maxRecDepth 20000 in
def mB0_0 : mCodeT := [(0, .aload_n 0, []), (1, .invokespecial 3, [9002, 99999]), (4, .aload_n 0, []), (5, .bipush 12, []), (7, .newarray .int, [100]), (9, .putfield 9, [0, 0]), (12, .aload_n 0, []), (13, .iconst 0, []), (14, .putfield 15, [0, 1]), (17, .aload_n 0, []), (18, .bipush 12, []), (20, .newarray .int, [100]), (22, .putfield 19, [0, 2]), (25, .aload_n 0, []), (26, .bipush 12, []), (28, .newarray .int, [100]), (30, .putfield 22, [0, 3]), (33, .aload_n 0, []), (34, .iconst 0, []), (35, .putfield 25, [0, 4]), (38, .aload_n 0, []), (39, .iconst 0, []), (40, .putfield 28, [0, 5]), (43, .aload_n 0, []), (44, .bipush 120, []), (46, .newarray .int, [100]), (48, .putfield 31, [0, 6]), (51, .aload_n 0, []), (52, .iconst 0, []), (53, .putfield 34, [0, 7]), (56, .aload_n 0, []), (57, .bipush 12, []), (59, .newarray .int, [100]), (61, .putfield 37, [0, 8]), (64, .aload_n 0, []), (65, .iconst 0, []), (66, .putfield 40, [0, 9]), (69, .aload_n 0, []), (70, .bipush 8, []), (72, .newarray .int, [100]), (74, .putfield 43, [0, 10]), (77, .aload_n 0, []), (78, .bipush 8, []), (80, .newarray .int, [100]), (82, .putfield 46, [0, 11]), (85, .return_, [])]
set_option maxRecDepth 20000 in
def mC0 : mCodeT := mB0_0
def mM0 : mRec := (yX1_init, cX1_init, 1, none, [], [], mC0)
-- LaneEyes$Live.clear()V
set_option maxRecDepth 20000 in
def mB1_0 : mCodeT := [(0, .aload_n 0, []), (1, .iconst 0, []), (2, .putfield 15, [0, 1]), (5, .aload_n 0, []), (6, .iconst 0, []), (7, .putfield 25, [0, 4]), (10, .aload_n 0, []), (11, .iconst 0, []), (12, .putfield 28, [0, 5]), (15, .aload_n 0, []), (16, .iconst 0, []), (17, .putfield 34, [0, 7]), (20, .aload_n 0, []), (21, .iconst 0, []), (22, .putfield 40, [0, 9]), (25, .return_, [])]
set_option maxRecDepth 20000 in
def mC1 : mCodeT := mB1_0
def mM1 : mRec := (yX1_clear, cX1_clear, 1, none, [], [], mC1)
-- LaneEyes$Live.copy(LLaneEyes$Live;)V
set_option maxRecDepth 20000 in
def mB2_0 : mCodeT := [(0, .aload_n 1, []), (1, .getfield 9, [0, 0]), (4, .iconst 0, []), (5, .aload_n 0, []), (6, .getfield 9, [0, 0]), (9, .iconst 0, []), (10, .aload_n 0, []), (11, .getfield 9, [0, 0]), (14, .arraylength, []), (15, .invokestatic 49, [9001, 99999]), (18, .aload_n 0, []), (19, .aload_n 1, []), (20, .getfield 15, [0, 1]), (23, .putfield 15, [0, 1]), (26, .aload_n 1, []), (27, .getfield 19, [0, 2]), (30, .iconst 0, []), (31, .aload_n 0, []), (32, .getfield 19, [0, 2]), (35, .iconst 0, []), (36, .aload_n 0, []), (37, .getfield 19, [0, 2]), (40, .arraylength, []), (41, .invokestatic 49, [9001, 99999]), (44, .aload_n 1, []), (45, .getfield 22, [0, 3]), (48, .iconst 0, []), (49, .aload_n 0, []), (50, .getfield 22, [0, 3]), (53, .iconst 0, []), (54, .aload_n 0, []), (55, .getfield 22, [0, 3]), (58, .arraylength, []), (59, .invokestatic 49, [9001, 99999]), (62, .aload_n 0, []), (63, .aload_n 1, []), (64, .getfield 25, [0, 4]), (67, .putfield 25, [0, 4]), (70, .aload_n 0, []), (71, .aload_n 1, []), (72, .getfield 28, [0, 5]), (75, .putfield 28, [0, 5]), (78, .aload_n 1, []), (79, .getfield 31, [0, 6]), (82, .iconst 0, []), (83, .aload_n 0, []), (84, .getfield 31, [0, 6]), (87, .iconst 0, []), (88, .aload_n 0, []), (89, .getfield 31, [0, 6]), (92, .arraylength, []), (93, .invokestatic 49, [9001, 99999]), (96, .aload_n 0, []), (97, .aload_n 1, []), (98, .getfield 34, [0, 7]), (101, .putfield 34, [0, 7]), (104, .aload_n 1, []), (105, .getfield 37, [0, 8]), (108, .iconst 0, []), (109, .aload_n 0, []), (110, .getfield 37, [0, 8]), (113, .iconst 0, []), (114, .aload_n 0, []), (115, .getfield 37, [0, 8]), (118, .arraylength, []), (119, .invokestatic 49, [9001, 99999]), (122, .aload_n 0, []), (123, .aload_n 1, []), (124, .getfield 40, [0, 9]), (127, .putfield 40, [0, 9]), (130, .aload_n 1, []), (131, .getfield 43, [0, 10]), (134, .iconst 0, []), (135, .aload_n 0, []), (136, .getfield 43, [0, 10]), (139, .iconst 0, []), (140, .aload_n 0, []), (141, .getfield 43, [0, 10]), (144, .arraylength, []), (145, .invokestatic 49, [9001, 99999]), (148, .aload_n 1, []), (149, .getfield 46, [0, 11]), (152, .iconst 0, []), (153, .aload_n 0, []), (154, .getfield 46, [0, 11]), (157, .iconst 0, []), (158, .aload_n 0, []), (159, .getfield 46, [0, 11]), (162, .arraylength, []), (163, .invokestatic 49, [9001, 99999]), (166, .return_, [])]
set_option maxRecDepth 20000 in
def mC2 : mCodeT := mB2_0
def mM2 : mRec := (yX1_copy, cX1_copy, 2, none, [], [], mC2)
-- LaneEyes$Live.noteAct(III)V
set_option maxRecDepth 20000 in
def mB3_0 : mCodeT := [(0, .aload_n 0, []), (1, .getfield 28, [0, 5]), (4, .bipush 40, []), (6, .if_icmp .lt 29, []), (9, .aload_n 0, []), (10, .getfield 31, [0, 6]), (13, .iconst 3, []), (14, .aload_n 0, []), (15, .getfield 31, [0, 6]), (18, .iconst 0, []), (19, .aload_n 0, []), (20, .getfield 31, [0, 6]), (23, .arraylength, []), (24, .iconst 3, []), (25, .isub, []), (26, .invokestatic 49, [9001, 99999]), (29, .aload_n 0, []), (30, .bipush 39, []), (32, .putfield 28, [0, 5])]
set_option maxRecDepth 20000 in
def mB3_35 : mCodeT := [(35, .aload_n 0, []), (36, .getfield 31, [0, 6]), (39, .iconst 3, []), (40, .aload_n 0, []), (41, .getfield 28, [0, 5]), (44, .imul, []), (45, .iload_n 1, []), (46, .iastore, []), (47, .aload_n 0, []), (48, .getfield 31, [0, 6]), (51, .iconst 3, []), (52, .aload_n 0, []), (53, .getfield 28, [0, 5]), (56, .imul, []), (57, .iconst 1, []), (58, .iadd, []), (59, .iload_n 2, []), (60, .iastore, []), (61, .aload_n 0, []), (62, .getfield 31, [0, 6]), (65, .iconst 3, []), (66, .aload_n 0, []), (67, .getfield 28, [0, 5]), (70, .imul, []), (71, .iconst 2, []), (72, .iadd, []), (73, .iload_n 3, []), (74, .iastore, []), (75, .aload_n 0, []), (76, .dup, []), (77, .getfield 28, [0, 5]), (80, .iconst 1, []), (81, .iadd, []), (82, .putfield 28, [0, 5]), (85, .return_, [])]
set_option maxRecDepth 20000 in
def mC3 : mCodeT := mB3_0 ++ (mB3_35)
def mM3 : mRec := (yX1_noteAct, cX1_noteAct, 4, none, [], [], mC3)
-- LaneEyes$Live.takeBack()V
set_option maxRecDepth 20000 in
def mB4_0 : mCodeT := [(0, .aload_n 0, []), (1, .getfield 28, [0, 5]), (4, .iconst 1, []), (5, .if_icmp .ge 4, []), (8, .return_, [])]
set_option maxRecDepth 20000 in
def mB4_9 : mCodeT := [(9, .aload_n 0, []), (10, .dup, []), (11, .getfield 28, [0, 5]), (14, .iconst 1, []), (15, .isub, []), (16, .putfield 28, [0, 5]), (19, .aload_n 0, []), (20, .getfield 31, [0, 6]), (23, .iconst 3, []), (24, .aload_n 0, []), (25, .getfield 28, [0, 5]), (28, .imul, []), (29, .iconst 1, []), (30, .iadd, []), (31, .iaload, []), (32, .istore_n 1, []), (33, .aload_n 0, []), (34, .getfield 31, [0, 6]), (37, .iconst 3, []), (38, .aload_n 0, []), (39, .getfield 28, [0, 5]), (42, .imul, []), (43, .iconst 2, []), (44, .iadd, []), (45, .iaload, []), (46, .istore_n 2, []), (47, .aload_n 0, []), (48, .getfield 31, [0, 6]), (51, .iconst 3, []), (52, .aload_n 0, []), (53, .getfield 28, [0, 5]), (56, .imul, []), (57, .iaload, []), (58, .tableswitch 79 0 4 #[34, 44, 52, 62, 71], [])]
set_option maxRecDepth 20000 in
def mB4_92 : mCodeT := [(92, .aload_n 0, []), (93, .getfield 9, [0, 0]), (96, .iload_n 1, []), (97, .iload_n 2, []), (98, .iastore, []), (99, .goto 38, [])]
set_option maxRecDepth 20000 in
def mB4_102 : mCodeT := [(102, .aload_n 0, []), (103, .iload_n 2, []), (104, .putfield 15, [0, 1]), (107, .goto 30, [])]
set_option maxRecDepth 20000 in
def mB4_110 : mCodeT := [(110, .aload_n 0, []), (111, .getfield 22, [0, 3]), (114, .iload_n 1, []), (115, .iload_n 2, []), (116, .iastore, []), (117, .goto 20, [])]
set_option maxRecDepth 20000 in
def mB4_120 : mCodeT := [(120, .aload_n 0, []), (121, .iload_n 1, []), (122, .iload_n 2, []), (123, .invokevirtual 55, [0, 5, 2, 0]), (126, .goto 11, [])]
set_option maxRecDepth 20000 in
def mB4_129 : mCodeT := [(129, .aload_n 0, []), (130, .iload_n 2, []), (131, .putfield 25, [0, 4]), (134, .goto 3, [])]
set_option maxRecDepth 20000 in
def mB4_137 : mCodeT := [(137, .return_, [])]
set_option maxRecDepth 20000 in
def mC4 : mCodeT := mB4_0 ++ (mB4_9 ++ (mB4_92 ++ (mB4_102 ++ (mB4_110 ++ (mB4_120 ++ (mB4_129 ++ (mB4_137)))))))
def mM4 : mRec := (yX1_takeBack, cX1_takeBack, 3, none, [], [], mC4)
-- LaneEyes$Live.changeOver(II)V
set_option maxRecDepth 20000 in
def mB5_0 : mCodeT := [(0, .aload_n 0, []), (1, .getfield 19, [0, 2]), (4, .iload_n 1, []), (5, .iaload, []), (6, .istore_n 3, []), (7, .aload_n 0, []), (8, .getfield 19, [0, 2]), (11, .iload_n 1, []), (12, .aload_n 0, []), (13, .getfield 19, [0, 2]), (16, .iload_n 2, []), (17, .iaload, []), (18, .iastore, []), (19, .aload_n 0, []), (20, .getfield 19, [0, 2]), (23, .iload_n 2, []), (24, .iload_n 3, []), (25, .iastore, []), (26, .aload_n 0, []), (27, .getfield 22, [0, 3]), (30, .iload_n 1, []), (31, .iaload, []), (32, .istore 4, []), (34, .aload_n 0, []), (35, .getfield 22, [0, 3]), (38, .iload_n 1, []), (39, .aload_n 0, []), (40, .getfield 22, [0, 3]), (43, .iload_n 2, []), (44, .iaload, []), (45, .iastore, []), (46, .aload_n 0, []), (47, .getfield 22, [0, 3]), (50, .iload_n 2, []), (51, .iload 4, []), (53, .iastore, []), (54, .return_, [])]
set_option maxRecDepth 20000 in
def mC5 : mCodeT := mB5_0
def mM5 : mRec := (yX1_changeOver, cX1_changeOver, 5, none, [], [], mC5)
-- LaneEyes$Live.allMeasured()I
set_option maxRecDepth 20000 in
def mB6_0 : mCodeT := [(0, .iconst 0, []), (1, .istore_n 1, []), (2, .iconst 0, []), (3, .istore_n 2, [])]
set_option maxRecDepth 20000 in
def mB6_4 : mCodeT := [(4, .iload_n 2, []), (5, .aload_n 0, []), (6, .getfield 34, [0, 7]), (9, .if_icmp .ge 18, []), (12, .iload_n 1, []), (13, .aload_n 0, []), (14, .getfield 37, [0, 8]), (17, .iload_n 2, []), (18, .iaload, []), (19, .iadd, []), (20, .istore_n 1, []), (21, .iinc 2 1, []), (24, .goto (-20), [])]
set_option maxRecDepth 20000 in
def mB6_27 : mCodeT := [(27, .iload_n 1, []), (28, .ireturn, [])]
set_option maxRecDepth 20000 in
def mC6 : mCodeT := mB6_0 ++ (mB6_4 ++ (mB6_27))
def mM6 : mRec := (yX1_allMeasured, cX1_allMeasured, 3, (some .int), [], [], mC6)
-- LaneEyes$Live.greatestMeasured()I
set_option maxRecDepth 20000 in
def mB7_0 : mCodeT := [(0, .iconst (-1), []), (1, .istore_n 1, []), (2, .iconst 0, []), (3, .istore_n 2, [])]
set_option maxRecDepth 20000 in
def mB7_4 : mCodeT := [(4, .iload_n 2, []), (5, .aload_n 0, []), (6, .getfield 34, [0, 7]), (9, .if_icmp .ge 20, []), (12, .iload_n 1, []), (13, .aload_n 0, []), (14, .getfield 37, [0, 8]), (17, .iload_n 2, []), (18, .iaload, []), (19, .invokestatic 59, [9010, 99999]), (22, .istore_n 1, []), (23, .iinc 2 1, []), (26, .goto (-22), [])]
set_option maxRecDepth 20000 in
def mB7_29 : mCodeT := [(29, .iload_n 1, []), (30, .ireturn, [])]
set_option maxRecDepth 20000 in
def mC7 : mCodeT := mB7_0 ++ (mB7_4 ++ (mB7_29))
def mM7 : mRec := (yX1_greatestMeasured, cX1_greatestMeasured, 3, (some .int), [], [], mC7)
-- LaneEyes$Live.measuredAbove(I)I
set_option maxRecDepth 20000 in
def mB8_0 : mCodeT := [(0, .iconst 0, []), (1, .istore_n 2, []), (2, .iconst 0, []), (3, .istore_n 3, [])]
set_option maxRecDepth 20000 in
def mB8_4 : mCodeT := [(4, .iload_n 3, []), (5, .aload_n 0, []), (6, .getfield 34, [0, 7]), (9, .if_icmp .ge 22, []), (12, .aload_n 0, []), (13, .getfield 37, [0, 8]), (16, .iload_n 3, []), (17, .iaload, []), (18, .iload_n 1, []), (19, .if_icmp .le 6, []), (22, .iinc 2 1, [])]
set_option maxRecDepth 20000 in
def mB8_25 : mCodeT := [(25, .iinc 3 1, []), (28, .goto (-24), [])]
set_option maxRecDepth 20000 in
def mB8_31 : mCodeT := [(31, .iload_n 2, []), (32, .ireturn, [])]
set_option maxRecDepth 20000 in
def mC8 : mCodeT := mB8_0 ++ (mB8_4 ++ (mB8_25 ++ (mB8_31)))
def mM8 : mRec := (yX1_measuredAbove, cX1_measuredAbove, 4, (some .int), [], [], mC8)
-- LaneEyes$Missing.<init>()V
set_option maxRecDepth 20000 in
def mB9_0 : mCodeT := [(0, .aload_n 0, []), (1, .invokespecial 3, [9002, 99999]), (4, .aload_n 0, []), (5, .iconst 0, []), (6, .putfield 9, [1, 0]), (9, .aload_n 0, []), (10, .iconst 0, []), (11, .putfield 15, [1, 1]), (14, .aload_n 0, []), (15, .iconst 0, []), (16, .putfield 18, [1, 2]), (19, .return_, [])]
set_option maxRecDepth 20000 in
def mC9 : mCodeT := mB9_0
def mM9 : mRec := (yX2_init, cX2_init, 1, none, [], [], mC9)
-- LaneEyes$Missing.find(LLaneEyes$Pool;LLaneEyes$Live;)V
set_option maxRecDepth 20000 in
def mB10_0 : mCodeT := [(0, .aload_n 0, []), (1, .iconst 1, []), (2, .putfield 9, [1, 0]), (5, .aload_n 0, []), (6, .iconst 0, []), (7, .putfield 15, [1, 1]), (10, .aload_n 0, []), (11, .iconst 0, []), (12, .putfield 18, [1, 2]), (15, .iconst 0, []), (16, .istore_n 3, [])]
set_option maxRecDepth 20000 in
def mB10_17 : mCodeT := [(17, .iload_n 3, []), (18, .aload_n 1, []), (19, .getfield 21, [3, 1]), (22, .if_icmp .ge 28, []), (25, .aload_n 0, []), (26, .getfield 9, [1, 0]), (29, .ifCond .le 21, []), (32, .aload_n 0, []), (33, .aload_n 1, []), (34, .aload_n 2, []), (35, .iload_n 3, []), (36, .invokestatic 26, [1, 11, 3]), (39, .aload_n 2, []), (40, .iload_n 3, []), (41, .invokevirtual 30, [0, 12, 3, 1]), (44, .iinc 3 1, []), (47, .goto (-30), [])]
set_option maxRecDepth 20000 in
def mB10_50 : mCodeT := [(50, .aload_n 0, []), (51, .getfield 9, [1, 0]), (54, .ifCond .ne 13, []), (57, .aload_n 0, []), (58, .iconst (-1), []), (59, .putfield 15, [1, 1]), (62, .aload_n 0, []), (63, .iconst 0, []), (64, .putfield 18, [1, 2])]
set_option maxRecDepth 20000 in
def mB10_67 : mCodeT := [(67, .return_, [])]
set_option maxRecDepth 20000 in
def mC10 : mCodeT := mB10_0 ++ (mB10_17 ++ (mB10_50 ++ (mB10_67)))
def mM10 : mRec := (yX2_find, cX2_find, 4, none, [], [], mC10)
-- LaneEyes$Missing.swimmersIn(LLaneEyes$Pool;LLaneEyes$Live;I)I
set_option maxRecDepth 20000 in
def mB11_0 : mCodeT := [(0, .iconst 0, []), (1, .istore_n 3, []), (2, .iconst 0, []), (3, .istore 4, [])]
set_option maxRecDepth 20000 in
def mB11_5 : mCodeT := [(5, .iload 4, []), (7, .aload_n 0, []), (8, .getfield 34, [3, 4]), (11, .if_icmp .ge 31, []), (14, .aload_n 0, []), (15, .aload_n 1, []), (16, .getfield 37, [0, 0]), (19, .iload 4, []), (21, .iaload, []), (22, .invokevirtual 43, [0, 49, 1, 3]), (25, .iload_n 2, []), (26, .if_icmp .ne 10, []), (29, .iload_n 3, []), (30, .iconst 1, []), (31, .iload 4, []), (33, .ishl, []), (34, .ior, []), (35, .istore_n 3, [])]
set_option maxRecDepth 20000 in
def mB11_36 : mCodeT := [(36, .iinc 4 1, []), (39, .goto (-34), [])]
set_option maxRecDepth 20000 in
def mB11_42 : mCodeT := [(42, .iload_n 3, []), (43, .ireturn, [])]
set_option maxRecDepth 20000 in
def mC11 : mCodeT := mB11_0 ++ (mB11_5 ++ (mB11_36 ++ (mB11_42)))
def mM11 : mRec := (yX2_swimmersIn, cX2_swimmersIn, 5, (some .int), [], [], mC11)
-- LaneEyes$Missing.findInRow(ILLaneEyes$Live;I)V
set_option maxRecDepth 20000 in
def mB12_0 : mCodeT := [(0, .iload_n 1, []), (1, .invokestatic 47, [1, 292, 1]), (4, .istore 4, []), (6, .iconst (-1), []), (7, .istore 5, []), (9, .iconst 0, []), (10, .istore 6, [])]
set_option maxRecDepth 20000 in
def mB12_12 : mCodeT := [(12, .iload 6, []), (14, .aload_n 2, []), (15, .getfield 52, [0, 9]), (18, .if_icmp .ge 53, []), (21, .aload_n 2, []), (22, .getfield 55, [0, 10]), (25, .iload 6, []), (27, .iaload, []), (28, .iload_n 3, []), (29, .if_icmp .ne 36, []), (32, .iload 5, []), (34, .iconst (-1), []), (35, .if_icmp .eq 21, []), (38, .iload 5, []), (40, .aload_n 2, []), (41, .getfield 58, [0, 11]), (44, .iload 6, []), (46, .iaload, []), (47, .if_icmp .eq 9, []), (50, .aload_n 0, []), (51, .iconst 0, []), (52, .putfield 9, [1, 0]), (55, .return_, [])]
set_option maxRecDepth 20000 in
def mB12_56 : mCodeT := [(56, .aload_n 2, []), (57, .getfield 58, [0, 11]), (60, .iload 6, []), (62, .iaload, []), (63, .istore 5, [])]
set_option maxRecDepth 20000 in
def mB12_65 : mCodeT := [(65, .iinc 6 1, []), (68, .goto (-56), [])]
set_option maxRecDepth 20000 in
def mB12_71 : mCodeT := [(71, .iload 5, []), (73, .iconst (-1), []), (74, .if_icmp .ne 17, []), (77, .aload_n 0, []), (78, .dup, []), (79, .getfield 9, [1, 0]), (82, .iconst 1, []), (83, .iload 4, []), (85, .ishl, []), (86, .imul, []), (87, .putfield 9, [1, 0]), (90, .return_, [])]
set_option maxRecDepth 20000 in
def mB12_91 : mCodeT := [(91, .aload_n 0, []), (92, .dup, []), (93, .getfield 9, [1, 0]), (96, .iload 4, []), (98, .iload 5, []), (100, .invokestatic 61, [1, 13, 2]), (103, .imul, []), (104, .putfield 9, [1, 0]), (107, .aload_n 0, []), (108, .dup, []), (109, .getfield 15, [1, 1]), (112, .iload_n 1, []), (113, .iload 4, []), (115, .iload 5, []), (117, .isub, []), (118, .invokestatic 65, [1, 14, 2]), (121, .ior, []), (122, .putfield 15, [1, 1]), (125, .iload 5, []), (127, .ifCond .ne 13, []), (130, .aload_n 0, []), (131, .dup, []), (132, .getfield 18, [1, 2]), (135, .iload_n 1, []), (136, .ior, []), (137, .putfield 18, [1, 2])]
set_option maxRecDepth 20000 in
def mB12_140 : mCodeT := [(140, .return_, [])]
set_option maxRecDepth 20000 in
def mC12 : mCodeT := mB12_0 ++ (mB12_12 ++ (mB12_56 ++ (mB12_65 ++ (mB12_71 ++ (mB12_91 ++ (mB12_140))))))
def mM12 : mRec := (yX2_findInRow, cX2_findInRow, 7, none, [], [], mC12)
-- LaneEyes$Missing.ways(II)I
set_option maxRecDepth 20000 in
def mB13_0 : mCodeT := [(0, .iload_n 1, []), (1, .iload_n 0, []), (2, .if_icmp .le 5, []), (5, .iconst 0, []), (6, .ireturn, [])]
set_option maxRecDepth 20000 in
def mB13_7 : mCodeT := [(7, .iconst 1, []), (8, .istore_n 2, []), (9, .iconst 0, []), (10, .istore_n 3, [])]
set_option maxRecDepth 20000 in
def mB13_11 : mCodeT := [(11, .iload_n 3, []), (12, .iload_n 1, []), (13, .if_icmp .ge 19, []), (16, .iload_n 2, []), (17, .iload_n 0, []), (18, .iload_n 3, []), (19, .isub, []), (20, .imul, []), (21, .iload_n 3, []), (22, .iconst 1, []), (23, .iadd, []), (24, .idiv, []), (25, .istore_n 2, []), (26, .iinc 3 1, []), (29, .goto (-18), [])]
set_option maxRecDepth 20000 in
def mB13_32 : mCodeT := [(32, .iload_n 2, []), (33, .ireturn, [])]
set_option maxRecDepth 20000 in
def mC13 : mCodeT := mB13_0 ++ (mB13_7 ++ (mB13_11 ++ (mB13_32)))
def mM13 : mRec := (yX2_ways, cX2_ways, 4, (some .int), [], [], mC13)
-- LaneEyes$Missing.lowestBits(II)I
set_option maxRecDepth 20000 in
def mB14_0 : mCodeT := [(0, .iload_n 0, []), (1, .istore_n 2, []), (2, .iconst 0, []), (3, .istore_n 3, []), (4, .iconst 0, []), (5, .istore 4, [])]
set_option maxRecDepth 20000 in
def mB14_7 : mCodeT := [(7, .iload 4, []), (9, .iload_n 1, []), (10, .if_icmp .ge 29, []), (13, .iload_n 2, []), (14, .ifCond .eq 25, []), (17, .iload_n 2, []), (18, .iload_n 2, []), (19, .ineg, []), (20, .iand, []), (21, .istore 5, []), (23, .iload_n 3, []), (24, .iload 5, []), (26, .ior, []), (27, .istore_n 3, []), (28, .iload_n 2, []), (29, .iload 5, []), (31, .ixor, []), (32, .istore_n 2, []), (33, .iinc 4 1, []), (36, .goto (-29), [])]
set_option maxRecDepth 20000 in
def mB14_39 : mCodeT := [(39, .iload_n 3, []), (40, .ireturn, [])]
set_option maxRecDepth 20000 in
def mC14 : mCodeT := mB14_0 ++ (mB14_7 ++ (mB14_39))
def mM14 : mRec := (yX2_lowestBits, cX2_lowestBits, 6, (some .int), [], [], mC14)
-- LaneEyes$Parser.<init>()V
set_option maxRecDepth 20000 in
def mB15_0 : mCodeT := [(0, .aload_n 0, []), (1, .invokespecial 3, [9002, 99999]), (4, .aload_n 0, []), (5, .new 9, [3, 14]), (8, .dup, []), (9, .invokespecial 11, [3, 42, 0]), (12, .putfield 12, [2, 0]), (15, .aload_n 0, []), (16, .new 18, [0, 12]), (19, .dup, []), (20, .invokespecial 20, [4, 0, 0]), (23, .putfield 21, [2, 1]), (26, .aload_n 0, []), (27, .iconst 0, []), (28, .putfield 25, [2, 2]), (31, .aload_n 0, []), (32, .iconst (-1), []), (33, .putfield 29, [2, 3]), (36, .aload_n 0, []), (37, .new 32, [6, 8]), (40, .dup, []), (41, .invokespecial 34, [4, 68, 0]), (44, .putfield 35, [2, 4]), (47, .aload_n 0, []), (48, .lconst 0, []), (49, .putfield 39, [2, 5]), (52, .aload_n 0, []), (53, .lconst 0, []), (54, .putfield 43, [2, 6]), (57, .aload_n 0, []), (58, .iconst 0, []), (59, .putfield 46, [2, 7]), (62, .aload_n 0, []), (63, .iconst 0, []), (64, .putfield 49, [2, 8]), (67, .aload_n 0, []), (68, .iconst 0, []), (69, .putfield 52, [2, 9]), (72, .aload_n 0, []), (73, .iconst 0, []), (74, .putfield 55, [2, 10]), (77, .return_, [])]
set_option maxRecDepth 20000 in
def mC15 : mCodeT := mB15_0
def mM15 : mRec := (yX3_init, cX3_init, 1, none, [], [], mC15)
-- LaneEyes$Parser.read([BI)Z
set_option maxRecDepth 20000 in
def mB16_0 : mCodeT := [(0, .aload_n 0, []), (1, .getfield 12, [2, 0]), (4, .invokevirtual 58, [0, 43, 0, 3]), (7, .aload_n 0, []), (8, .getfield 21, [2, 1]), (11, .invokevirtual 61, [0, 1, 0, 0]), (14, .aload_n 0, []), (15, .iconst 0, []), (16, .putfield 25, [2, 2]), (19, .aload_n 0, []), (20, .iconst (-1), []), (21, .putfield 29, [2, 3]), (24, .aload_n 0, []), (25, .lconst 0, []), (26, .putfield 39, [2, 5]), (29, .aload_n 0, []), (30, .lconst 0, []), (31, .putfield 43, [2, 6]), (34, .aload_n 0, []), (35, .iconst 0, []), (36, .putfield 46, [2, 7]), (39, .aload_n 0, []), (40, .getfield 35, [2, 4]), (43, .aload_n 1, []), (44, .iload_n 2, []), (45, .invokevirtual 62, [0, 69, 2, 6]), (48, .aload_n 0, []), (49, .getfield 35, [2, 4]), (52, .getstatic 66, [0]), (55, .invokevirtual 72, [0, 73, 1, 6]), (58, .ifCond .eq 12, []), (61, .aload_n 0, []), (62, .invokevirtual 76, [0, 24, 0, 2]), (65, .ifCond .ne 5, []), (68, .iconst 0, []), (69, .ireturn, [])]
set_option maxRecDepth 20000 in
def mB16_70 : mCodeT := [(70, .iconst 0, []), (71, .istore_n 3, [])]
set_option maxRecDepth 20000 in
def mB16_72 : mCodeT := [(72, .iload_n 3, []), (73, .sipush 700, []), (76, .if_icmp .ge 37, []), (79, .aload_n 0, []), (80, .getfield 35, [2, 4]), (83, .getfield 80, [6, 4]), (86, .ifCond .eq 27, []), (89, .aload_n 0, []), (90, .invokevirtual 83, [0, 25, 0, 2]), (93, .ifCond .eq 12, []), (96, .aload_n 0, []), (97, .bipush 59, []), (99, .invokevirtual 86, [0, 18, 1, 2]), (102, .ifCond .ne 5, [])]
set_option maxRecDepth 20000 in
def mB16_105 : mCodeT := [(105, .iconst 0, []), (106, .ireturn, [])]
set_option maxRecDepth 20000 in
def mB16_107 : mCodeT := [(107, .iinc 3 1, []), (110, .goto (-38), [])]
set_option maxRecDepth 20000 in
def mB16_113 : mCodeT := [(113, .iconst 1, []), (114, .ireturn, [])]
set_option maxRecDepth 20000 in
def mC16 : mCodeT := mB16_0 ++ (mB16_70 ++ (mB16_72 ++ (mB16_105 ++ (mB16_107 ++ (mB16_113)))))
def mM16 : mRec := (yX3_read, cX3_read, 4, (some .boolean), [], [], mC16)
-- LaneEyes$Parser.fail(I)Z
set_option maxRecDepth 20000 in
def mB17_0 : mCodeT := [(0, .aload_n 0, []), (1, .iload_n 1, []), (2, .putfield 25, [2, 2]), (5, .aload_n 0, []), (6, .aload_n 0, []), (7, .getfield 35, [2, 4]), (10, .getfield 90, [6, 3]), (13, .putfield 29, [2, 3]), (16, .iconst 0, []), (17, .ireturn, [])]
set_option maxRecDepth 20000 in
def mC17 : mCodeT := mB17_0
def mM17 : mRec := (yX3_fail, cX3_fail, 2, (some .boolean), [], [], mC17)
-- LaneEyes$Parser.pass(C)Z
set_option maxRecDepth 20000 in
def mB18_0 : mCodeT := [(0, .aload_n 0, []), (1, .getfield 35, [2, 4]), (4, .iload_n 1, []), (5, .invokevirtual 93, [0, 74, 1, 6]), (8, .ifCond .ne 9, []), (11, .aload_n 0, []), (12, .iconst 1, []), (13, .invokevirtual 96, [0, 17, 1, 2]), (16, .ireturn, [])]
set_option maxRecDepth 20000 in
def mB18_17 : mCodeT := [(17, .aload_n 0, []), (18, .getfield 35, [2, 4]), (21, .invokevirtual 100, [0, 70, 0, 6]), (24, .iconst 1, []), (25, .ireturn, [])]
set_option maxRecDepth 20000 in
def mC18 : mCodeT := mB18_0 ++ (mB18_17)
def mM18 : mRec := (yX3_pass, cX3_pass, 2, (some .boolean), [], [], mC18)
-- LaneEyes$Parser.isNumber(II)Z
set_option maxRecDepth 20000 in
def mB19_0 : mCodeT := [(0, .aload_n 0, []), (1, .getfield 35, [2, 4]), (4, .getfield 80, [6, 4]), (7, .iconst 2, []), (8, .if_icmp .eq 9, []), (11, .aload_n 0, []), (12, .iconst 1, []), (13, .invokevirtual 96, [0, 17, 1, 2]), (16, .ireturn, [])]
set_option maxRecDepth 20000 in
def mB19_17 : mCodeT := [(17, .aload_n 0, []), (18, .aload_n 0, []), (19, .getfield 35, [2, 4]), (22, .getfield 103, [6, 6]), (25, .putfield 52, [2, 9]), (28, .aload_n 0, []), (29, .getfield 52, [2, 9]), (32, .iload_n 1, []), (33, .if_icmp .lt 11, []), (36, .aload_n 0, []), (37, .getfield 52, [2, 9]), (40, .iload_n 2, []), (41, .if_icmp .le 11, [])]
set_option maxRecDepth 20000 in
def mB19_44 : mCodeT := [(44, .aload_n 0, []), (45, .iconst 2, []), (46, .invokevirtual 96, [0, 17, 1, 2]), (49, .ifCond .eq 7, [])]
set_option maxRecDepth 20000 in
def mB19_52 : mCodeT := [(52, .iconst 1, []), (53, .goto 4, [])]
set_option maxRecDepth 20000 in
def mB19_56 : mCodeT := [(56, .iconst 0, [])]
set_option maxRecDepth 20000 in
def mB19_57 : mCodeT := [(57, .ireturn, [])]
set_option maxRecDepth 20000 in
def mC19 : mCodeT := mB19_0 ++ (mB19_17 ++ (mB19_44 ++ (mB19_52 ++ (mB19_56 ++ (mB19_57)))))
def mM19 : mRec := (yX3_isNumber, cX3_isNumber, 3, (some .boolean), [], [], mC19)
-- LaneEyes$Parser.passNumber(II)Z
set_option maxRecDepth 20000 in
def mB20_0 : mCodeT := [(0, .aload_n 0, []), (1, .iload_n 1, []), (2, .iload_n 2, []), (3, .invokevirtual 104, [0, 19, 2, 2]), (6, .ifCond .ne 5, []), (9, .iconst 0, []), (10, .ireturn, [])]
set_option maxRecDepth 20000 in
def mB20_11 : mCodeT := [(11, .aload_n 0, []), (12, .getfield 35, [2, 4]), (15, .invokevirtual 100, [0, 70, 0, 6]), (18, .iconst 1, []), (19, .ireturn, [])]
set_option maxRecDepth 20000 in
def mC20 : mCodeT := mB20_0 ++ (mB20_11)
def mM20 : mRec := (yX3_passNumber, cX3_passNumber, 3, (some .boolean), [], [], mC20)
-- LaneEyes$Parser.passOneMore(II)Z
set_option maxRecDepth 20000 in
def mB21_0 : mCodeT := [(0, .iload_n 1, []), (1, .iload_n 2, []), (2, .if_icmp .lt 9, []), (5, .aload_n 0, []), (6, .iconst 2, []), (7, .invokevirtual 96, [0, 17, 1, 2]), (10, .ireturn, [])]
set_option maxRecDepth 20000 in
def mB21_11 : mCodeT := [(11, .aload_n 0, []), (12, .getfield 35, [2, 4]), (15, .invokevirtual 100, [0, 70, 0, 6]), (18, .iconst 1, []), (19, .ireturn, [])]
set_option maxRecDepth 20000 in
def mC21 : mCodeT := mB21_0 ++ (mB21_11)
def mM21 : mRec := (yX3_passOneMore, cX3_passOneMore, 3, (some .boolean), [], [], mC21)
-- LaneEyes$Parser.passOnce(I)Z
set_option maxRecDepth 20000 in
def mB22_0 : mCodeT := [(0, .aload_n 0, []), (1, .getfield 46, [2, 7]), (4, .iload_n 1, []), (5, .iand, []), (6, .ifCond .eq 9, []), (9, .aload_n 0, []), (10, .iconst 5, []), (11, .invokevirtual 96, [0, 17, 1, 2]), (14, .ireturn, [])]
set_option maxRecDepth 20000 in
def mB22_15 : mCodeT := [(15, .aload_n 0, []), (16, .dup, []), (17, .getfield 46, [2, 7]), (20, .iload_n 1, []), (21, .ior, []), (22, .putfield 46, [2, 7]), (25, .aload_n 0, []), (26, .getfield 35, [2, 4]), (29, .invokevirtual 100, [0, 70, 0, 6]), (32, .iconst 1, []), (33, .ireturn, [])]
set_option maxRecDepth 20000 in
def mC22 : mCodeT := mB22_0 ++ (mB22_15)
def mM22 : mRec := (yX3_passOnce, cX3_passOnce, 2, (some .boolean), [], [], mC22)
-- LaneEyes$Parser.passSpot(J)Z
set_option maxRecDepth 20000 in
def mB23_0 : mCodeT := [(0, .aload_n 0, []), (1, .iconst 0, []), (2, .aload_n 0, []), (3, .getfield 12, [2, 0]), (6, .getfield 108, [3, 0]), (9, .iconst 1, []), (10, .isub, []), (11, .invokevirtual 104, [0, 19, 2, 2]), (14, .ifCond .ne 5, []), (17, .iconst 0, []), (18, .ireturn, [])]
set_option maxRecDepth 20000 in
def mB23_19 : mCodeT := [(19, .aload_n 0, []), (20, .aload_n 0, []), (21, .getfield 52, [2, 9]), (24, .putfield 55, [2, 10]), (27, .aload_n 0, []), (28, .getfield 35, [2, 4]), (31, .invokevirtual 100, [0, 70, 0, 6]), (34, .aload_n 0, []), (35, .iconst 0, []), (36, .aload_n 0, []), (37, .getfield 12, [2, 0]), (40, .getfield 111, [3, 1]), (43, .iconst 1, []), (44, .isub, []), (45, .invokevirtual 104, [0, 19, 2, 2]), (48, .ifCond .ne 5, []), (51, .iconst 0, []), (52, .ireturn, [])]
set_option maxRecDepth 20000 in
def mB23_53 : mCodeT := [(53, .aload_n 0, []), (54, .dup, []), (55, .getfield 55, [2, 10]), (58, .aload_n 0, []), (59, .getfield 12, [2, 0]), (62, .getfield 108, [3, 0]), (65, .aload_n 0, []), (66, .getfield 52, [2, 9]), (69, .imul, []), (70, .iadd, []), (71, .putfield 55, [2, 10]), (74, .lload_n 1, []), (75, .aload_n 0, []), (76, .getfield 55, [2, 10]), (79, .lushr, []), (80, .lconst 1, []), (81, .land, []), (82, .lconst 0, []), (83, .lcmp, []), (84, .ifCond .eq 9, []), (87, .aload_n 0, []), (88, .iconst 4, []), (89, .invokevirtual 96, [0, 17, 1, 2]), (92, .ireturn, [])]
set_option maxRecDepth 20000 in
def mB23_93 : mCodeT := [(93, .aload_n 0, []), (94, .getfield 35, [2, 4]), (97, .invokevirtual 100, [0, 70, 0, 6]), (100, .iconst 1, []), (101, .ireturn, [])]
set_option maxRecDepth 20000 in
def mC23 : mCodeT := mB23_0 ++ (mB23_19 ++ (mB23_53 ++ (mB23_93)))
def mM23 : mRec := (yX3_passSpot, cX3_passSpot, 3, (some .boolean), [], [], mC23)
-- LaneEyes$Parser.readSize()Z
set_option maxRecDepth 20000 in
def mB24_0 : mCodeT := [(0, .aload_n 0, []), (1, .getfield 35, [2, 4]), (4, .invokevirtual 100, [0, 70, 0, 6]), (7, .aload_n 0, []), (8, .iconst 1, []), (9, .bipush 8, []), (11, .invokevirtual 114, [0, 20, 2, 2]), (14, .ifCond .ne 5, []), (17, .iconst 0, []), (18, .ireturn, [])]
set_option maxRecDepth 20000 in
def mB24_19 : mCodeT := [(19, .aload_n 0, []), (20, .getfield 12, [2, 0]), (23, .aload_n 0, []), (24, .getfield 52, [2, 9]), (27, .putfield 108, [3, 0]), (30, .aload_n 0, []), (31, .iconst 1, []), (32, .iconst 5, []), (33, .invokevirtual 114, [0, 20, 2, 2]), (36, .ifCond .ne 5, []), (39, .iconst 0, []), (40, .ireturn, [])]
set_option maxRecDepth 20000 in
def mB24_41 : mCodeT := [(41, .aload_n 0, []), (42, .getfield 12, [2, 0]), (45, .aload_n 0, []), (46, .getfield 52, [2, 9]), (49, .putfield 111, [3, 1]), (52, .aload_n 0, []), (53, .bipush 59, []), (55, .invokevirtual 86, [0, 18, 1, 2]), (58, .ireturn, [])]
set_option maxRecDepth 20000 in
def mC24 : mCodeT := mB24_0 ++ (mB24_19 ++ (mB24_41))
def mM24 : mRec := (yX3_readSize, cX3_readSize, 1, (some .boolean), [], [], mC24)
-- LaneEyes$Parser.readLine()Z
set_option maxRecDepth 20000 in
def mB25_0 : mCodeT := [(0, .aload_n 0, []), (1, .getfield 35, [2, 4]), (4, .getfield 80, [6, 4]), (7, .iconst 1, []), (8, .if_icmp .ne 13, []), (11, .aload_n 0, []), (12, .getfield 35, [2, 4]), (15, .getfield 117, [6, 5]), (18, .goto 4, [])]
set_option maxRecDepth 20000 in
def mB25_21 : mCodeT := [(21, .aconst_null, [])]
set_option maxRecDepth 20000 in
def mB25_22 : mCodeT := [(22, .astore_n 1, []), (23, .aload_n 1, []), (24, .ifnonnull 9, []), (27, .aload_n 0, []), (28, .iconst 1, []), (29, .invokevirtual 96, [0, 17, 1, 2]), (32, .ireturn, [])]
set_option maxRecDepth 20000 in
def mB25_33 : mCodeT := [(33, .getstatic 120, [7]), (36, .aload_n 1, []), (37, .invokevirtual 126, [6, 291, 0, 0]), (40, .iaload, []), (41, .tableswitch 185 1 11 #[59, 64, 69, 74, 79, 84, 89, 94, 99, 123, 147], [])]
set_option maxRecDepth 20000 in
def mB25_100 : mCodeT := [(100, .aload_n 0, []), (101, .invokevirtual 130, [0, 26, 0, 2]), (104, .ireturn, [])]
set_option maxRecDepth 20000 in
def mB25_105 : mCodeT := [(105, .aload_n 0, []), (106, .invokevirtual 133, [0, 27, 0, 2]), (109, .ireturn, [])]
set_option maxRecDepth 20000 in
def mB25_110 : mCodeT := [(110, .aload_n 0, []), (111, .invokevirtual 136, [0, 28, 0, 2]), (114, .ireturn, [])]
set_option maxRecDepth 20000 in
def mB25_115 : mCodeT := [(115, .aload_n 0, []), (116, .invokevirtual 139, [0, 29, 0, 2]), (119, .ireturn, [])]
set_option maxRecDepth 20000 in
def mB25_120 : mCodeT := [(120, .aload_n 0, []), (121, .invokevirtual 142, [0, 30, 0, 2]), (124, .ireturn, [])]
set_option maxRecDepth 20000 in
def mB25_125 : mCodeT := [(125, .aload_n 0, []), (126, .invokevirtual 145, [0, 31, 0, 2]), (129, .ireturn, [])]
set_option maxRecDepth 20000 in
def mB25_130 : mCodeT := [(130, .aload_n 0, []), (131, .invokevirtual 148, [0, 32, 0, 2]), (134, .ireturn, [])]
set_option maxRecDepth 20000 in
def mB25_135 : mCodeT := [(135, .aload_n 0, []), (136, .invokevirtual 151, [0, 33, 0, 2]), (139, .ireturn, [])]
set_option maxRecDepth 20000 in
def mB25_140 : mCodeT := [(140, .aload_n 0, []), (141, .bipush 8, []), (143, .invokevirtual 154, [0, 22, 1, 2]), (146, .ifCond .eq 16, []), (149, .aload_n 0, []), (150, .iconst 0, []), (151, .iconst 1, []), (152, .invokevirtual 157, [0, 34, 2, 2]), (155, .ifCond .eq 7, []), (158, .iconst 1, []), (159, .goto 4, [])]
set_option maxRecDepth 20000 in
def mB25_162 : mCodeT := [(162, .iconst 0, [])]
set_option maxRecDepth 20000 in
def mB25_163 : mCodeT := [(163, .ireturn, [])]
set_option maxRecDepth 20000 in
def mB25_164 : mCodeT := [(164, .aload_n 0, []), (165, .bipush 16, []), (167, .invokevirtual 154, [0, 22, 1, 2]), (170, .ifCond .eq 16, []), (173, .aload_n 0, []), (174, .iconst 1, []), (175, .iconst 2, []), (176, .invokevirtual 157, [0, 34, 2, 2]), (179, .ifCond .eq 7, []), (182, .iconst 1, []), (183, .goto 4, [])]
set_option maxRecDepth 20000 in
def mB25_186 : mCodeT := [(186, .iconst 0, [])]
set_option maxRecDepth 20000 in
def mB25_187 : mCodeT := [(187, .ireturn, [])]
set_option maxRecDepth 20000 in
def mB25_188 : mCodeT := [(188, .aload_n 0, []), (189, .aload_n 0, []), (190, .getfield 12, [2, 0]), (193, .getfield 160, [3, 9]), (196, .iconst 4, []), (197, .invokevirtual 163, [0, 21, 2, 2]), (200, .ifCond .eq 24, []), (203, .aload_n 0, []), (204, .iconst 2, []), (205, .aload_n 0, []), (206, .getfield 12, [2, 0]), (209, .getfield 160, [3, 9]), (212, .iadd, []), (213, .iconst 4, []), (214, .invokevirtual 157, [0, 34, 2, 2]), (217, .ifCond .eq 7, []), (220, .iconst 1, []), (221, .goto 4, [])]
set_option maxRecDepth 20000 in
def mB25_224 : mCodeT := [(224, .iconst 0, [])]
set_option maxRecDepth 20000 in
def mB25_225 : mCodeT := [(225, .ireturn, [])]
set_option maxRecDepth 20000 in
def mB25_226 : mCodeT := [(226, .aload_n 0, []), (227, .iconst 1, []), (228, .invokevirtual 96, [0, 17, 1, 2]), (231, .ireturn, [])]
set_option maxRecDepth 20000 in
def mC25 : mCodeT := mB25_0 ++ (mB25_21 ++ (mB25_22 ++ (mB25_33 ++ (mB25_100 ++ (mB25_105 ++ (mB25_110 ++ (mB25_115 ++ (mB25_120 ++ (mB25_125 ++ (mB25_130 ++ (mB25_135 ++ (mB25_140 ++ (mB25_162 ++ (mB25_163 ++ (mB25_164 ++ (mB25_186 ++ (mB25_187 ++ (mB25_188 ++ (mB25_224 ++ (mB25_225 ++ (mB25_226)))))))))))))))))))))
def mM25 : mRec := (yX3_readLine, cX3_readLine, 2, (some .boolean), [], [], mC25)
-- LaneEyes$Parser.readDeep()Z
set_option maxRecDepth 20000 in
def mB26_0 : mCodeT := [(0, .aload_n 0, []), (1, .getfield 35, [2, 4]), (4, .invokevirtual 100, [0, 70, 0, 6]), (7, .aload_n 0, []), (8, .aload_n 0, []), (9, .getfield 39, [2, 5]), (12, .invokevirtual 166, [0, 23, 1, 2]), (15, .ifCond .eq 13, []), (18, .aload_n 0, []), (19, .iconst 1, []), (20, .bipush 9, []), (22, .invokevirtual 114, [0, 20, 2, 2]), (25, .ifCond .ne 5, [])]
set_option maxRecDepth 20000 in
def mB26_28 : mCodeT := [(28, .iconst 0, []), (29, .ireturn, [])]
set_option maxRecDepth 20000 in
def mB26_30 : mCodeT := [(30, .aload_n 0, []), (31, .dup, []), (32, .getfield 39, [2, 5]), (35, .lconst 1, []), (36, .aload_n 0, []), (37, .getfield 55, [2, 10]), (40, .lshl, []), (41, .lor, []), (42, .putfield 39, [2, 5]), (45, .aload_n 0, []), (46, .getfield 12, [2, 0]), (49, .getfield 170, [3, 2]), (52, .aload_n 0, []), (53, .getfield 55, [2, 10]), (56, .aload_n 0, []), (57, .getfield 52, [2, 9]), (60, .iastore, []), (61, .iconst 1, []), (62, .ireturn, [])]
set_option maxRecDepth 20000 in
def mC26 : mCodeT := mB26_0 ++ (mB26_28 ++ (mB26_30))
def mM26 : mRec := (yX3_readDeep, cX3_readDeep, 1, (some .boolean), [], [], mC26)
-- LaneEyes$Parser.readGlare()Z
set_option maxRecDepth 20000 in
def mB27_0 : mCodeT := [(0, .aload_n 0, []), (1, .getfield 35, [2, 4]), (4, .invokevirtual 100, [0, 70, 0, 6]), (7, .aload_n 0, []), (8, .aload_n 0, []), (9, .getfield 43, [2, 6]), (12, .invokevirtual 166, [0, 23, 1, 2]), (15, .ifCond .eq 13, []), (18, .aload_n 0, []), (19, .iconst 0, []), (20, .bipush 9, []), (22, .invokevirtual 114, [0, 20, 2, 2]), (25, .ifCond .ne 5, [])]
set_option maxRecDepth 20000 in
def mB27_28 : mCodeT := [(28, .iconst 0, []), (29, .ireturn, [])]
set_option maxRecDepth 20000 in
def mB27_30 : mCodeT := [(30, .aload_n 0, []), (31, .dup, []), (32, .getfield 43, [2, 6]), (35, .lconst 1, []), (36, .aload_n 0, []), (37, .getfield 55, [2, 10]), (40, .lshl, []), (41, .lor, []), (42, .putfield 43, [2, 6]), (45, .aload_n 0, []), (46, .getfield 12, [2, 0]), (49, .getfield 173, [3, 3]), (52, .aload_n 0, []), (53, .getfield 55, [2, 10]), (56, .aload_n 0, []), (57, .getfield 52, [2, 9]), (60, .iastore, []), (61, .iconst 1, []), (62, .ireturn, [])]
set_option maxRecDepth 20000 in
def mC27 : mCodeT := mB27_0 ++ (mB27_28 ++ (mB27_30))
def mM27 : mRec := (yX3_readGlare, cX3_readGlare, 1, (some .boolean), [], [], mC27)
-- LaneEyes$Parser.readSwimmer()Z
set_option maxRecDepth 20000 in
def mB28_0 : mCodeT := [(0, .aload_n 0, []), (1, .aload_n 0, []), (2, .getfield 12, [2, 0]), (5, .getfield 176, [3, 4]), (8, .bipush 12, []), (10, .invokevirtual 163, [0, 21, 2, 2]), (13, .ifCond .eq 21, []), (16, .aload_n 0, []), (17, .lconst 0, []), (18, .invokevirtual 166, [0, 23, 1, 2]), (21, .ifCond .eq 13, []), (24, .aload_n 0, []), (25, .iconst 0, []), (26, .bipush 9, []), (28, .invokevirtual 114, [0, 20, 2, 2]), (31, .ifCond .ne 5, [])]
set_option maxRecDepth 20000 in
def mB28_34 : mCodeT := [(34, .iconst 0, []), (35, .ireturn, [])]
set_option maxRecDepth 20000 in
def mB28_36 : mCodeT := [(36, .aload_n 0, []), (37, .getfield 21, [2, 1]), (40, .getfield 179, [0, 0]), (43, .aload_n 0, []), (44, .getfield 12, [2, 0]), (47, .getfield 176, [3, 4]), (50, .aload_n 0, []), (51, .getfield 55, [2, 10]), (54, .iastore, []), (55, .aload_n 0, []), (56, .getfield 12, [2, 0]), (59, .getfield 182, [3, 5]), (62, .aload_n 0, []), (63, .getfield 12, [2, 0]), (66, .getfield 176, [3, 4]), (69, .aload_n 0, []), (70, .getfield 52, [2, 9]), (73, .iastore, []), (74, .aload_n 0, []), (75, .getfield 12, [2, 0]), (78, .dup, []), (79, .getfield 176, [3, 4]), (82, .iconst 1, []), (83, .iadd, []), (84, .putfield 176, [3, 4]), (87, .iconst 1, []), (88, .ireturn, [])]
set_option maxRecDepth 20000 in
def mC28 : mCodeT := mB28_0 ++ (mB28_34 ++ (mB28_36))
def mM28 : mRec := (yX3_readSwimmer, cX3_readSwimmer, 1, (some .boolean), [], [], mC28)
-- LaneEyes$Parser.readChair()Z
set_option maxRecDepth 20000 in
def mB29_0 : mCodeT := [(0, .aload_n 0, []), (1, .iconst 1, []), (2, .invokevirtual 154, [0, 22, 1, 2]), (5, .ifCond .eq 11, []), (8, .aload_n 0, []), (9, .lconst 0, []), (10, .invokevirtual 166, [0, 23, 1, 2]), (13, .ifCond .ne 5, [])]
set_option maxRecDepth 20000 in
def mB29_16 : mCodeT := [(16, .iconst 0, []), (17, .ireturn, [])]
set_option maxRecDepth 20000 in
def mB29_18 : mCodeT := [(18, .aload_n 0, []), (19, .getfield 21, [2, 1]), (22, .aload_n 0, []), (23, .getfield 55, [2, 10]), (26, .putfield 185, [0, 1]), (29, .iconst 1, []), (30, .ireturn, [])]
set_option maxRecDepth 20000 in
def mC29 : mCodeT := mB29_0 ++ (mB29_16 ++ (mB29_18))
def mM29 : mRec := (yX3_readChair, cX3_readChair, 1, (some .boolean), [], [], mC29)
-- LaneEyes$Parser.readLook()Z
set_option maxRecDepth 20000 in
def mB30_0 : mCodeT := [(0, .aload_n 0, []), (1, .aload_n 0, []), (2, .getfield 12, [2, 0]), (5, .getfield 188, [3, 6]), (8, .bipush 12, []), (10, .invokevirtual 163, [0, 21, 2, 2]), (13, .ifCond .eq 21, []), (16, .aload_n 0, []), (17, .lconst 0, []), (18, .invokevirtual 166, [0, 23, 1, 2]), (21, .ifCond .eq 13, []), (24, .aload_n 0, []), (25, .iconst 1, []), (26, .bipush 9, []), (28, .invokevirtual 114, [0, 20, 2, 2]), (31, .ifCond .ne 5, [])]
set_option maxRecDepth 20000 in
def mB30_34 : mCodeT := [(34, .iconst 0, []), (35, .ireturn, [])]
set_option maxRecDepth 20000 in
def mB30_36 : mCodeT := [(36, .aload_n 0, []), (37, .getfield 21, [2, 1]), (40, .getfield 191, [0, 2]), (43, .aload_n 0, []), (44, .getfield 12, [2, 0]), (47, .getfield 188, [3, 6]), (50, .aload_n 0, []), (51, .getfield 55, [2, 10]), (54, .iastore, []), (55, .aload_n 0, []), (56, .getfield 21, [2, 1]), (59, .getfield 194, [0, 3]), (62, .aload_n 0, []), (63, .getfield 12, [2, 0]), (66, .getfield 188, [3, 6]), (69, .aload_n 0, []), (70, .getfield 52, [2, 9]), (73, .iastore, []), (74, .aload_n 0, []), (75, .getfield 12, [2, 0]), (78, .dup, []), (79, .getfield 188, [3, 6]), (82, .iconst 1, []), (83, .iadd, []), (84, .putfield 188, [3, 6]), (87, .iconst 1, []), (88, .ireturn, [])]
set_option maxRecDepth 20000 in
def mC30 : mCodeT := mB30_0 ++ (mB30_34 ++ (mB30_36))
def mM30 : mRec := (yX3_readLook, cX3_readLook, 1, (some .boolean), [], [], mC30)
-- LaneEyes$Parser.readLast()Z
set_option maxRecDepth 20000 in
def mB31_0 : mCodeT := [(0, .aload_n 0, []), (1, .iconst 2, []), (2, .invokevirtual 154, [0, 22, 1, 2]), (5, .ifCond .eq 14, []), (8, .aload_n 0, []), (9, .iconst 1, []), (10, .sipush 300, []), (13, .invokevirtual 114, [0, 20, 2, 2]), (16, .ifCond .ne 5, [])]
set_option maxRecDepth 20000 in
def mB31_19 : mCodeT := [(19, .iconst 0, []), (20, .ireturn, [])]
set_option maxRecDepth 20000 in
def mB31_21 : mCodeT := [(21, .aload_n 0, []), (22, .getfield 12, [2, 0]), (25, .aload_n 0, []), (26, .getfield 52, [2, 9]), (29, .putfield 197, [3, 7]), (32, .iconst 1, []), (33, .ireturn, [])]
set_option maxRecDepth 20000 in
def mC31 : mCodeT := mB31_0 ++ (mB31_19 ++ (mB31_21))
def mM31 : mRec := (yX3_readLast, cX3_readLast, 1, (some .boolean), [], [], mC31)
-- LaneEyes$Parser.readTire()Z
set_option maxRecDepth 20000 in
def mB32_0 : mCodeT := [(0, .aload_n 0, []), (1, .iconst 4, []), (2, .invokevirtual 154, [0, 22, 1, 2]), (5, .ifCond .eq 13, []), (8, .aload_n 0, []), (9, .iconst 1, []), (10, .bipush 99, []), (12, .invokevirtual 114, [0, 20, 2, 2]), (15, .ifCond .ne 5, [])]
set_option maxRecDepth 20000 in
def mB32_18 : mCodeT := [(18, .iconst 0, []), (19, .ireturn, [])]
set_option maxRecDepth 20000 in
def mB32_20 : mCodeT := [(20, .aload_n 0, []), (21, .getfield 12, [2, 0]), (24, .aload_n 0, []), (25, .getfield 52, [2, 9]), (28, .putfield 200, [3, 8]), (31, .iconst 1, []), (32, .ireturn, [])]
set_option maxRecDepth 20000 in
def mC32 : mCodeT := mB32_0 ++ (mB32_18 ++ (mB32_20))
def mM32 : mRec := (yX3_readTire, cX3_readTire, 1, (some .boolean), [], [], mC32)
-- LaneEyes$Parser.readCase()Z
set_option maxRecDepth 20000 in
def mB33_0 : mCodeT := [(0, .aload_n 0, []), (1, .aload_n 0, []), (2, .getfield 12, [2, 0]), (5, .getfield 203, [3, 10]), (8, .bipush 10, []), (10, .invokevirtual 163, [0, 21, 2, 2]), (13, .ifCond .ne 5, []), (16, .iconst 0, []), (17, .ireturn, [])]
set_option maxRecDepth 20000 in
def mB33_18 : mCodeT := [(18, .iconst 0, []), (19, .istore_n 1, [])]
set_option maxRecDepth 20000 in
def mB33_20 : mCodeT := [(20, .iload_n 1, []), (21, .iconst 4, []), (22, .if_icmp .ge 44, []), (25, .aload_n 0, []), (26, .iconst 0, []), (27, .bipush 9, []), (29, .invokevirtual 114, [0, 20, 2, 2]), (32, .ifCond .ne 5, []), (35, .iconst 0, []), (36, .ireturn, [])]
set_option maxRecDepth 20000 in
def mB33_37 : mCodeT := [(37, .aload_n 0, []), (38, .getfield 12, [2, 0]), (41, .getfield 206, [3, 11]), (44, .iconst 4, []), (45, .aload_n 0, []), (46, .getfield 12, [2, 0]), (49, .getfield 203, [3, 10]), (52, .imul, []), (53, .iload_n 1, []), (54, .iadd, []), (55, .aload_n 0, []), (56, .getfield 52, [2, 9]), (59, .iastore, []), (60, .iinc 1 1, []), (63, .goto (-43), [])]
set_option maxRecDepth 20000 in
def mB33_66 : mCodeT := [(66, .aload_n 0, []), (67, .getfield 35, [2, 4]), (70, .getstatic 209, [1]), (73, .invokevirtual 72, [0, 73, 1, 6]), (76, .ifCond .ne 22, []), (79, .aload_n 0, []), (80, .getfield 35, [2, 4]), (83, .getstatic 212, [2]), (86, .invokevirtual 72, [0, 73, 1, 6]), (89, .ifCond .ne 9, []), (92, .aload_n 0, []), (93, .iconst 1, []), (94, .invokevirtual 96, [0, 17, 1, 2]), (97, .ireturn, [])]
set_option maxRecDepth 20000 in
def mB33_98 : mCodeT := [(98, .aload_n 0, []), (99, .getfield 35, [2, 4]), (102, .getstatic 209, [1]), (105, .invokevirtual 72, [0, 73, 1, 6]), (108, .ifCond .eq 24, []), (111, .aload_n 0, []), (112, .getfield 12, [2, 0]), (115, .dup, []), (116, .getfield 215, [3, 12]), (119, .iconst 1, []), (120, .aload_n 0, []), (121, .getfield 12, [2, 0]), (124, .getfield 203, [3, 10]), (127, .ishl, []), (128, .ior, []), (129, .putfield 215, [3, 12])]
set_option maxRecDepth 20000 in
def mB33_132 : mCodeT := [(132, .aload_n 0, []), (133, .getfield 12, [2, 0]), (136, .dup, []), (137, .getfield 203, [3, 10]), (140, .iconst 1, []), (141, .iadd, []), (142, .putfield 203, [3, 10]), (145, .aload_n 0, []), (146, .getfield 35, [2, 4]), (149, .invokevirtual 100, [0, 70, 0, 6]), (152, .iconst 1, []), (153, .ireturn, [])]
set_option maxRecDepth 20000 in
def mC33 : mCodeT := mB33_0 ++ (mB33_18 ++ (mB33_20 ++ (mB33_37 ++ (mB33_66 ++ (mB33_98 ++ (mB33_132))))))
def mM33 : mRec := (yX3_readCase, cX3_readCase, 2, (some .boolean), [], [], mC33)
-- LaneEyes$Parser.readRule(II)Z
set_option maxRecDepth 20000 in
def mB34_0 : mCodeT := [(0, .aload_n 0, []), (1, .iload_n 2, []), (2, .putfield 49, [2, 8]), (5, .aload_n 0, []), (6, .getfield 12, [2, 0]), (9, .getfield 218, [3, 13]), (12, .iload_n 1, []), (13, .invokevirtual 222, [0, 62, 1, 5]), (16, .aload_n 0, []), (17, .iconst 0, []), (18, .invokevirtual 228, [0, 35, 1, 2]), (21, .ifCond .ne 5, []), (24, .iconst 0, []), (25, .ireturn, [])]
set_option maxRecDepth 20000 in
def mB34_26 : mCodeT := [(26, .aload_n 0, []), (27, .getfield 12, [2, 0]), (30, .getfield 218, [3, 13]), (33, .iload_n 1, []), (34, .invokevirtual 231, [0, 63, 1, 5]), (37, .iload_n 2, []), (38, .iconst 4, []), (39, .if_icmp .ne 16, []), (42, .aload_n 0, []), (43, .getfield 12, [2, 0]), (46, .dup, []), (47, .getfield 160, [3, 9]), (50, .iconst 1, []), (51, .iadd, []), (52, .putfield 160, [3, 9])]
set_option maxRecDepth 20000 in
def mB34_55 : mCodeT := [(55, .iconst 1, []), (56, .ireturn, [])]
set_option maxRecDepth 20000 in
def mC34 : mCodeT := mB34_0 ++ (mB34_26 ++ (mB34_55))
def mM34 : mRec := (yX3_readRule, cX3_readRule, 3, (some .boolean), [], [], mC34)
-- LaneEyes$Parser.readExpr(I)Z
set_option maxRecDepth 20000 in
def mB35_0 : mCodeT := [(0, .iload_n 1, []), (1, .bipush 6, []), (3, .if_icmp .lt 23, []), (6, .aload_n 0, []), (7, .aload_n 0, []), (8, .getfield 35, [2, 4]), (11, .invokevirtual 234, [0, 75, 0, 6]), (14, .ifCond .eq 7, []), (17, .iconst 2, []), (18, .goto 4, [])]
set_option maxRecDepth 20000 in
def mB35_21 : mCodeT := [(21, .iconst 1, [])]
set_option maxRecDepth 20000 in
def mB35_22 : mCodeT := [(22, .invokevirtual 96, [0, 17, 1, 2]), (25, .ireturn, [])]
set_option maxRecDepth 20000 in
def mB35_26 : mCodeT := [(26, .aload_n 0, []), (27, .iload_n 1, []), (28, .invokevirtual 237, [0, 36, 1, 2]), (31, .ifCond .ne 5, []), (34, .iconst 0, []), (35, .ireturn, [])]
set_option maxRecDepth 20000 in
def mB35_36 : mCodeT := [(36, .iconst 0, []), (37, .istore_n 2, [])]
set_option maxRecDepth 20000 in
def mB35_38 : mCodeT := [(38, .iload_n 2, []), (39, .sipush 700, []), (42, .if_icmp .ge 50, []), (45, .aload_n 0, []), (46, .getfield 35, [2, 4]), (49, .getstatic 240, [3]), (52, .invokevirtual 72, [0, 73, 1, 6]), (55, .ifCond .eq 37, []), (58, .aload_n 0, []), (59, .getfield 35, [2, 4]), (62, .invokevirtual 100, [0, 70, 0, 6]), (65, .aload_n 0, []), (66, .iload_n 1, []), (67, .invokevirtual 237, [0, 36, 1, 2]), (70, .ifCond .ne 5, []), (73, .iconst 0, []), (74, .ireturn, [])]
set_option maxRecDepth 20000 in
def mB35_75 : mCodeT := [(75, .aload_n 0, []), (76, .getfield 12, [2, 0]), (79, .getfield 218, [3, 13]), (82, .iconst (-1), []), (83, .invokevirtual 243, [0, 65, 1, 5]), (86, .iinc 2 1, []), (89, .goto (-51), [])]
set_option maxRecDepth 20000 in
def mB35_92 : mCodeT := [(92, .iconst 1, []), (93, .ireturn, [])]
set_option maxRecDepth 20000 in
def mC35 : mCodeT := mB35_0 ++ (mB35_21 ++ (mB35_22 ++ (mB35_26 ++ (mB35_36 ++ (mB35_38 ++ (mB35_75 ++ (mB35_92)))))))
def mM35 : mRec := (yX3_readExpr, cX3_readExpr, 3, (some .boolean), [], [], mC35)
-- LaneEyes$Parser.readAnd(I)Z
set_option maxRecDepth 20000 in
def mB36_0 : mCodeT := [(0, .aload_n 0, []), (1, .iload_n 1, []), (2, .invokevirtual 246, [0, 37, 1, 2]), (5, .ifCond .ne 5, []), (8, .iconst 0, []), (9, .ireturn, [])]
set_option maxRecDepth 20000 in
def mB36_10 : mCodeT := [(10, .iconst 0, []), (11, .istore_n 2, [])]
set_option maxRecDepth 20000 in
def mB36_12 : mCodeT := [(12, .iload_n 2, []), (13, .sipush 700, []), (16, .if_icmp .ge 51, []), (19, .aload_n 0, []), (20, .getfield 35, [2, 4]), (23, .getstatic 249, [4]), (26, .invokevirtual 72, [0, 73, 1, 6]), (29, .ifCond .eq 38, []), (32, .aload_n 0, []), (33, .getfield 35, [2, 4]), (36, .invokevirtual 100, [0, 70, 0, 6]), (39, .aload_n 0, []), (40, .iload_n 1, []), (41, .invokevirtual 246, [0, 37, 1, 2]), (44, .ifCond .ne 5, []), (47, .iconst 0, []), (48, .ireturn, [])]
set_option maxRecDepth 20000 in
def mB36_49 : mCodeT := [(49, .aload_n 0, []), (50, .getfield 12, [2, 0]), (53, .getfield 218, [3, 13]), (56, .bipush (-2), []), (58, .invokevirtual 243, [0, 65, 1, 5]), (61, .iinc 2 1, []), (64, .goto (-52), [])]
set_option maxRecDepth 20000 in
def mB36_67 : mCodeT := [(67, .iconst 1, []), (68, .ireturn, [])]
set_option maxRecDepth 20000 in
def mC36 : mCodeT := mB36_0 ++ (mB36_10 ++ (mB36_12 ++ (mB36_49 ++ (mB36_67))))
def mM36 : mRec := (yX3_readAnd, cX3_readAnd, 3, (some .boolean), [], [], mC36)
-- LaneEyes$Parser.readNot(I)Z
set_option maxRecDepth 20000 in
def mB37_0 : mCodeT := [(0, .iconst 0, []), (1, .istore_n 2, [])]
set_option maxRecDepth 20000 in
def mB37_2 : mCodeT := [(2, .iload_n 2, []), (3, .bipush 6, []), (5, .if_icmp .ge 29, []), (8, .aload_n 0, []), (9, .getfield 35, [2, 4]), (12, .getstatic 252, [5]), (15, .invokevirtual 72, [0, 73, 1, 6]), (18, .ifCond .eq 16, []), (21, .iinc 2 1, []), (24, .aload_n 0, []), (25, .getfield 35, [2, 4]), (28, .invokevirtual 100, [0, 70, 0, 6]), (31, .goto (-29), [])]
set_option maxRecDepth 20000 in
def mB37_34 : mCodeT := [(34, .iload_n 2, []), (35, .bipush 6, []), (37, .if_icmp .ne 22, []), (40, .aload_n 0, []), (41, .getfield 35, [2, 4]), (44, .getstatic 252, [5]), (47, .invokevirtual 72, [0, 73, 1, 6]), (50, .ifCond .eq 9, []), (53, .aload_n 0, []), (54, .iconst 2, []), (55, .invokevirtual 96, [0, 17, 1, 2]), (58, .ireturn, [])]
set_option maxRecDepth 20000 in
def mB37_59 : mCodeT := [(59, .aload_n 0, []), (60, .iload_n 1, []), (61, .invokevirtual 255, [0, 38, 1, 2]), (64, .ifCond .ne 5, []), (67, .iconst 0, []), (68, .ireturn, [])]
set_option maxRecDepth 20000 in
def mB37_69 : mCodeT := [(69, .iconst 0, []), (70, .istore_n 3, [])]
set_option maxRecDepth 20000 in
def mB37_71 : mCodeT := [(71, .iload_n 3, []), (72, .iload_n 2, []), (73, .if_icmp .ge 21, []), (76, .aload_n 0, []), (77, .getfield 12, [2, 0]), (80, .getfield 218, [3, 13]), (83, .bipush (-3), []), (85, .invokevirtual 243, [0, 65, 1, 5]), (88, .iinc 3 1, []), (91, .goto (-20), [])]
set_option maxRecDepth 20000 in
def mB37_94 : mCodeT := [(94, .iconst 1, []), (95, .ireturn, [])]
set_option maxRecDepth 20000 in
def mC37 : mCodeT := mB37_0 ++ (mB37_2 ++ (mB37_34 ++ (mB37_59 ++ (mB37_69 ++ (mB37_71 ++ (mB37_94))))))
def mM37 : mRec := (yX3_readNot, cX3_readNot, 4, (some .boolean), [], [], mC37)
-- LaneEyes$Parser.readTest(I)Z
set_option maxRecDepth 20000 in
def mB38_0 : mCodeT := [(0, .aload_n 0, []), (1, .iload_n 1, []), (2, .invokevirtual 258, [0, 39, 1, 2]), (5, .ifCond .ne 5, []), (8, .iconst 0, []), (9, .ireturn, [])]
set_option maxRecDepth 20000 in
def mB38_10 : mCodeT := [(10, .aload_n 0, []), (11, .getfield 35, [2, 4]), (14, .bipush 60, []), (16, .invokevirtual 93, [0, 74, 1, 6]), (19, .ifCond .ne 17, []), (22, .aload_n 0, []), (23, .getfield 35, [2, 4]), (26, .bipush 61, []), (28, .invokevirtual 93, [0, 74, 1, 6]), (31, .ifCond .ne 5, []), (34, .iconst 1, []), (35, .ireturn, [])]
set_option maxRecDepth 20000 in
def mB38_36 : mCodeT := [(36, .aload_n 0, []), (37, .getfield 35, [2, 4]), (40, .bipush 60, []), (42, .invokevirtual 93, [0, 74, 1, 6]), (45, .ifCond .eq 8, []), (48, .bipush (-4), []), (50, .goto 5, [])]
set_option maxRecDepth 20000 in
def mB38_53 : mCodeT := [(53, .bipush (-5), [])]
set_option maxRecDepth 20000 in
def mB38_55 : mCodeT := [(55, .istore_n 2, []), (56, .aload_n 0, []), (57, .getfield 35, [2, 4]), (60, .invokevirtual 100, [0, 70, 0, 6]), (63, .aload_n 0, []), (64, .iload_n 1, []), (65, .invokevirtual 258, [0, 39, 1, 2]), (68, .ifCond .ne 5, []), (71, .iconst 0, []), (72, .ireturn, [])]
set_option maxRecDepth 20000 in
def mB38_73 : mCodeT := [(73, .aload_n 0, []), (74, .getfield 12, [2, 0]), (77, .getfield 218, [3, 13]), (80, .iload_n 2, []), (81, .invokevirtual 243, [0, 65, 1, 5]), (84, .iconst 1, []), (85, .ireturn, [])]
set_option maxRecDepth 20000 in
def mC38 : mCodeT := mB38_0 ++ (mB38_10 ++ (mB38_36 ++ (mB38_53 ++ (mB38_55 ++ (mB38_73)))))
def mM38 : mRec := (yX3_readTest, cX3_readTest, 3, (some .boolean), [], [], mC38)
-- LaneEyes$Parser.readSum(I)Z
set_option maxRecDepth 20000 in
def mB39_0 : mCodeT := [(0, .aload_n 0, []), (1, .iload_n 1, []), (2, .invokevirtual 261, [0, 40, 1, 2]), (5, .ifCond .ne 5, []), (8, .iconst 0, []), (9, .ireturn, [])]
set_option maxRecDepth 20000 in
def mB39_10 : mCodeT := [(10, .iconst 0, []), (11, .istore_n 2, [])]
set_option maxRecDepth 20000 in
def mB39_12 : mCodeT := [(12, .iload_n 2, []), (13, .sipush 700, []), (16, .if_icmp .ge 81, []), (19, .aload_n 0, []), (20, .getfield 35, [2, 4]), (23, .bipush 43, []), (25, .invokevirtual 93, [0, 74, 1, 6]), (28, .ifCond .ne 15, []), (31, .aload_n 0, []), (32, .getfield 35, [2, 4]), (35, .bipush 45, []), (37, .invokevirtual 93, [0, 74, 1, 6]), (40, .ifCond .eq 57, [])]
set_option maxRecDepth 20000 in
def mB39_43 : mCodeT := [(43, .aload_n 0, []), (44, .getfield 35, [2, 4]), (47, .bipush 43, []), (49, .invokevirtual 93, [0, 74, 1, 6]), (52, .ifCond .eq 8, []), (55, .bipush (-6), []), (57, .goto 5, [])]
set_option maxRecDepth 20000 in
def mB39_60 : mCodeT := [(60, .bipush (-7), [])]
set_option maxRecDepth 20000 in
def mB39_62 : mCodeT := [(62, .istore_n 3, []), (63, .aload_n 0, []), (64, .getfield 35, [2, 4]), (67, .invokevirtual 100, [0, 70, 0, 6]), (70, .aload_n 0, []), (71, .iload_n 1, []), (72, .invokevirtual 261, [0, 40, 1, 2]), (75, .ifCond .ne 5, []), (78, .iconst 0, []), (79, .ireturn, [])]
set_option maxRecDepth 20000 in
def mB39_80 : mCodeT := [(80, .aload_n 0, []), (81, .getfield 12, [2, 0]), (84, .getfield 218, [3, 13]), (87, .iload_n 3, []), (88, .invokevirtual 243, [0, 65, 1, 5]), (91, .iinc 2 1, []), (94, .goto (-82), [])]
set_option maxRecDepth 20000 in
def mB39_97 : mCodeT := [(97, .iconst 1, []), (98, .ireturn, [])]
set_option maxRecDepth 20000 in
def mC39 : mCodeT := mB39_0 ++ (mB39_10 ++ (mB39_12 ++ (mB39_43 ++ (mB39_60 ++ (mB39_62 ++ (mB39_80 ++ (mB39_97)))))))
def mM39 : mRec := (yX3_readSum, cX3_readSum, 4, (some .boolean), [], [], mC39)
-- LaneEyes$Parser.readProduct(I)Z
set_option maxRecDepth 20000 in
def mB40_0 : mCodeT := [(0, .aload_n 0, []), (1, .iload_n 1, []), (2, .invokevirtual 264, [0, 41, 1, 2]), (5, .ifCond .ne 5, []), (8, .iconst 0, []), (9, .ireturn, [])]
set_option maxRecDepth 20000 in
def mB40_10 : mCodeT := [(10, .iconst 0, []), (11, .istore_n 2, [])]
set_option maxRecDepth 20000 in
def mB40_12 : mCodeT := [(12, .iload_n 2, []), (13, .sipush 700, []), (16, .if_icmp .ge 81, []), (19, .aload_n 0, []), (20, .getfield 35, [2, 4]), (23, .bipush 42, []), (25, .invokevirtual 93, [0, 74, 1, 6]), (28, .ifCond .ne 15, []), (31, .aload_n 0, []), (32, .getfield 35, [2, 4]), (35, .bipush 47, []), (37, .invokevirtual 93, [0, 74, 1, 6]), (40, .ifCond .eq 57, [])]
set_option maxRecDepth 20000 in
def mB40_43 : mCodeT := [(43, .aload_n 0, []), (44, .getfield 35, [2, 4]), (47, .bipush 42, []), (49, .invokevirtual 93, [0, 74, 1, 6]), (52, .ifCond .eq 8, []), (55, .bipush (-8), []), (57, .goto 5, [])]
set_option maxRecDepth 20000 in
def mB40_60 : mCodeT := [(60, .bipush (-9), [])]
set_option maxRecDepth 20000 in
def mB40_62 : mCodeT := [(62, .istore_n 3, []), (63, .aload_n 0, []), (64, .getfield 35, [2, 4]), (67, .invokevirtual 100, [0, 70, 0, 6]), (70, .aload_n 0, []), (71, .iload_n 1, []), (72, .invokevirtual 264, [0, 41, 1, 2]), (75, .ifCond .ne 5, []), (78, .iconst 0, []), (79, .ireturn, [])]
set_option maxRecDepth 20000 in
def mB40_80 : mCodeT := [(80, .aload_n 0, []), (81, .getfield 12, [2, 0]), (84, .getfield 218, [3, 13]), (87, .iload_n 3, []), (88, .invokevirtual 243, [0, 65, 1, 5]), (91, .iinc 2 1, []), (94, .goto (-82), [])]
set_option maxRecDepth 20000 in
def mB40_97 : mCodeT := [(97, .iconst 1, []), (98, .ireturn, [])]
set_option maxRecDepth 20000 in
def mC40 : mCodeT := mB40_0 ++ (mB40_10 ++ (mB40_12 ++ (mB40_43 ++ (mB40_60 ++ (mB40_62 ++ (mB40_80 ++ (mB40_97)))))))
def mM40 : mRec := (yX3_readProduct, cX3_readProduct, 4, (some .boolean), [], [], mC40)
-- LaneEyes$Parser.readPart(I)Z
set_option maxRecDepth 20000 in
def mB41_0 : mCodeT := [(0, .aload_n 0, []), (1, .getfield 35, [2, 4]), (4, .getfield 80, [6, 4]), (7, .iconst 2, []), (8, .if_icmp .ne 32, []), (11, .aload_n 0, []), (12, .iconst 0, []), (13, .sipush 9999, []), (16, .invokevirtual 114, [0, 20, 2, 2]), (19, .ifCond .ne 5, []), (22, .iconst 0, []), (23, .ireturn, [])]
set_option maxRecDepth 20000 in
def mB41_24 : mCodeT := [(24, .aload_n 0, []), (25, .getfield 12, [2, 0]), (28, .getfield 218, [3, 13]), (31, .aload_n 0, []), (32, .getfield 52, [2, 9]), (35, .invokevirtual 243, [0, 65, 1, 5]), (38, .iconst 1, []), (39, .ireturn, [])]
set_option maxRecDepth 20000 in
def mB41_40 : mCodeT := [(40, .aload_n 0, []), (41, .getfield 35, [2, 4]), (44, .getfield 80, [6, 4]), (47, .iconst 1, []), (48, .if_icmp .eq 37, []), (51, .aload_n 0, []), (52, .bipush 40, []), (54, .invokevirtual 86, [0, 18, 1, 2]), (57, .ifCond .eq 26, []), (60, .aload_n 0, []), (61, .iload_n 1, []), (62, .iconst 1, []), (63, .iadd, []), (64, .invokevirtual 228, [0, 35, 1, 2]), (67, .ifCond .eq 16, []), (70, .aload_n 0, []), (71, .bipush 41, []), (73, .invokevirtual 86, [0, 18, 1, 2]), (76, .ifCond .eq 7, []), (79, .iconst 1, []), (80, .goto 4, [])]
set_option maxRecDepth 20000 in
def mB41_83 : mCodeT := [(83, .iconst 0, [])]
set_option maxRecDepth 20000 in
def mB41_84 : mCodeT := [(84, .ireturn, [])]
set_option maxRecDepth 20000 in
def mB41_85 : mCodeT := [(85, .aload_n 0, []), (86, .getfield 35, [2, 4]), (89, .getfield 117, [6, 5]), (92, .astore_n 2, []), (93, .aload_n 2, []), (94, .ifnull 15, []), (97, .aload_n 2, []), (98, .getfield 267, [900, 2]), (101, .aload_n 0, []), (102, .getfield 49, [2, 8]), (105, .iand, []), (106, .ifCond .ne 9, [])]
set_option maxRecDepth 20000 in
def mB41_109 : mCodeT := [(109, .aload_n 0, []), (110, .iconst 3, []), (111, .invokevirtual 96, [0, 17, 1, 2]), (114, .ireturn, [])]
set_option maxRecDepth 20000 in
def mB41_115 : mCodeT := [(115, .aload_n 0, []), (116, .getfield 12, [2, 0]), (119, .getfield 218, [3, 13]), (122, .bipush (-20), []), (124, .aload_n 2, []), (125, .getfield 269, [900, 1]), (128, .isub, []), (129, .invokevirtual 243, [0, 65, 1, 5]), (132, .aload_n 0, []), (133, .getfield 35, [2, 4]), (136, .invokevirtual 100, [0, 70, 0, 6]), (139, .iconst 1, []), (140, .ireturn, [])]
set_option maxRecDepth 20000 in
def mC41 : mCodeT := mB41_0 ++ (mB41_24 ++ (mB41_40 ++ (mB41_83 ++ (mB41_84 ++ (mB41_85 ++ (mB41_109 ++ (mB41_115)))))))
def mM41 : mRec := (yX3_readPart, cX3_readPart, 3, (some .boolean), [], [], mC41)
-- LaneEyes$Pool.<init>()V
set_option maxRecDepth 20000 in
def mB42_0 : mCodeT := [(0, .aload_n 0, []), (1, .invokespecial 3, [9002, 99999]), (4, .aload_n 0, []), (5, .bipush 8, []), (7, .putfield 9, [3, 0]), (10, .aload_n 0, []), (11, .iconst 5, []), (12, .putfield 15, [3, 1]), (15, .aload_n 0, []), (16, .bipush 40, []), (18, .newarray .int, [100]), (20, .putfield 18, [3, 2]), (23, .aload_n 0, []), (24, .bipush 40, []), (26, .newarray .int, [100]), (28, .putfield 22, [3, 3]), (31, .aload_n 0, []), (32, .iconst 0, []), (33, .putfield 25, [3, 4]), (36, .aload_n 0, []), (37, .bipush 12, []), (39, .newarray .int, [100]), (41, .putfield 28, [3, 5]), (44, .aload_n 0, []), (45, .iconst 0, []), (46, .putfield 31, [3, 6]), (49, .aload_n 0, []), (50, .bipush 60, []), (52, .putfield 34, [3, 7]), (55, .aload_n 0, []), (56, .bipush 20, []), (58, .putfield 37, [3, 8]), (61, .aload_n 0, []), (62, .iconst 0, []), (63, .putfield 40, [3, 9]), (66, .aload_n 0, []), (67, .iconst 0, []), (68, .putfield 43, [3, 10]), (71, .aload_n 0, []), (72, .bipush 40, []), (74, .newarray .int, [100]), (76, .putfield 46, [3, 11]), (79, .aload_n 0, []), (80, .iconst 0, []), (81, .putfield 49, [3, 12]), (84, .aload_n 0, []), (85, .new 52, [5, 6]), (88, .dup, []), (89, .invokespecial 54, [4, 59, 0]), (92, .putfield 55, [3, 13]), (95, .aload_n 0, []), (96, .getfield 18, [3, 2]), (99, .iconst 3, []), (100, .invokestatic 59, [1, 300, 2]), (103, .return_, [])]
set_option maxRecDepth 20000 in
def mC42 : mCodeT := mB42_0
def mM42 : mRec := (yX4_init, cX4_init, 1, none, [], [], mC42)
-- LaneEyes$Pool.clear()V
set_option maxRecDepth 20000 in
def mB43_0 : mCodeT := [(0, .aload_n 0, []), (1, .bipush 8, []), (3, .putfield 9, [3, 0]), (6, .aload_n 0, []), (7, .iconst 5, []), (8, .putfield 15, [3, 1]), (11, .aload_n 0, []), (12, .getfield 18, [3, 2]), (15, .iconst 3, []), (16, .invokestatic 59, [1, 300, 2]), (19, .aload_n 0, []), (20, .getfield 22, [3, 3]), (23, .iconst 0, []), (24, .invokestatic 59, [1, 300, 2]), (27, .aload_n 0, []), (28, .iconst 0, []), (29, .putfield 25, [3, 4]), (32, .aload_n 0, []), (33, .iconst 0, []), (34, .putfield 31, [3, 6]), (37, .aload_n 0, []), (38, .bipush 60, []), (40, .putfield 34, [3, 7]), (43, .aload_n 0, []), (44, .bipush 20, []), (46, .putfield 37, [3, 8]), (49, .aload_n 0, []), (50, .iconst 0, []), (51, .putfield 40, [3, 9]), (54, .aload_n 0, []), (55, .iconst 0, []), (56, .putfield 43, [3, 10]), (59, .aload_n 0, []), (60, .iconst 0, []), (61, .putfield 49, [3, 12]), (64, .aload_n 0, []), (65, .getfield 55, [3, 13]), (68, .invokevirtual 65, [0, 60, 0, 5]), (71, .return_, [])]
set_option maxRecDepth 20000 in
def mC43 : mCodeT := mB43_0
def mM43 : mRec := (yX4_clear, cX4_clear, 1, none, [], [], mC43)
-- LaneEyes$Pool.copy(LLaneEyes$Pool;)V
set_option maxRecDepth 20000 in
def mB44_0 : mCodeT := [(0, .aload_n 0, []), (1, .aload_n 1, []), (2, .getfield 9, [3, 0]), (5, .putfield 9, [3, 0]), (8, .aload_n 0, []), (9, .aload_n 1, []), (10, .getfield 15, [3, 1]), (13, .putfield 15, [3, 1]), (16, .aload_n 1, []), (17, .getfield 18, [3, 2]), (20, .iconst 0, []), (21, .aload_n 0, []), (22, .getfield 18, [3, 2]), (25, .iconst 0, []), (26, .aload_n 0, []), (27, .getfield 18, [3, 2]), (30, .arraylength, []), (31, .invokestatic 68, [9001, 99999]), (34, .aload_n 1, []), (35, .getfield 22, [3, 3]), (38, .iconst 0, []), (39, .aload_n 0, []), (40, .getfield 22, [3, 3]), (43, .iconst 0, []), (44, .aload_n 0, []), (45, .getfield 22, [3, 3]), (48, .arraylength, []), (49, .invokestatic 68, [9001, 99999]), (52, .aload_n 0, []), (53, .aload_n 1, []), (54, .getfield 25, [3, 4]), (57, .putfield 25, [3, 4]), (60, .aload_n 1, []), (61, .getfield 28, [3, 5]), (64, .iconst 0, []), (65, .aload_n 0, []), (66, .getfield 28, [3, 5]), (69, .iconst 0, []), (70, .aload_n 0, []), (71, .getfield 28, [3, 5]), (74, .arraylength, []), (75, .invokestatic 68, [9001, 99999]), (78, .aload_n 0, []), (79, .aload_n 1, []), (80, .getfield 31, [3, 6]), (83, .putfield 31, [3, 6]), (86, .aload_n 0, []), (87, .aload_n 1, []), (88, .getfield 34, [3, 7]), (91, .putfield 34, [3, 7]), (94, .aload_n 0, []), (95, .aload_n 1, []), (96, .getfield 37, [3, 8]), (99, .putfield 37, [3, 8]), (102, .aload_n 0, []), (103, .aload_n 1, []), (104, .getfield 40, [3, 9]), (107, .putfield 40, [3, 9]), (110, .aload_n 0, []), (111, .aload_n 1, []), (112, .getfield 43, [3, 10]), (115, .putfield 43, [3, 10]), (118, .aload_n 1, []), (119, .getfield 46, [3, 11]), (122, .iconst 0, []), (123, .aload_n 0, []), (124, .getfield 46, [3, 11]), (127, .iconst 0, []), (128, .aload_n 0, []), (129, .getfield 46, [3, 11]), (132, .arraylength, []), (133, .invokestatic 68, [9001, 99999]), (136, .aload_n 0, []), (137, .aload_n 1, []), (138, .getfield 49, [3, 12]), (141, .putfield 49, [3, 12]), (144, .aload_n 0, []), (145, .getfield 55, [3, 13]), (148, .aload_n 1, []), (149, .getfield 55, [3, 13]), (152, .invokevirtual 74, [0, 61, 1, 5]), (155, .return_, [])]
set_option maxRecDepth 20000 in
def mC44 : mCodeT := mB44_0
def mM44 : mRec := (yX4_copy, cX4_copy, 2, none, [], [], mC44)
-- LaneEyes$Pool.cells()I
set_option maxRecDepth 20000 in
def mB45_0 : mCodeT := [(0, .aload_n 0, []), (1, .getfield 9, [3, 0]), (4, .aload_n 0, []), (5, .getfield 15, [3, 1]), (8, .imul, []), (9, .ireturn, [])]
set_option maxRecDepth 20000 in
def mC45 : mCodeT := mB45_0
def mM45 : mRec := (yX4_cells, cX4_cells, 1, (some .int), [], [], mC45)
-- LaneEyes$Pool.hasCell(I)Z
set_option maxRecDepth 20000 in
def mB46_0 : mCodeT := [(0, .iload_n 1, []), (1, .ifCond .lt 20, []), (4, .iload_n 1, []), (5, .aload_n 0, []), (6, .getfield 9, [3, 0]), (9, .aload_n 0, []), (10, .getfield 15, [3, 1]), (13, .imul, []), (14, .if_icmp .ge 7, []), (17, .iconst 1, []), (18, .goto 4, [])]
set_option maxRecDepth 20000 in
def mB46_21 : mCodeT := [(21, .iconst 0, [])]
set_option maxRecDepth 20000 in
def mB46_22 : mCodeT := [(22, .ireturn, [])]
set_option maxRecDepth 20000 in
def mC46 : mCodeT := mB46_0 ++ (mB46_21 ++ (mB46_22))
def mM46 : mRec := (yX4_hasCell, cX4_hasCell, 2, (some .boolean), [], [], mC46)
-- LaneEyes$Pool.hasLook(I)Z
set_option maxRecDepth 20000 in
def mB47_0 : mCodeT := [(0, .iload_n 1, []), (1, .ifCond .lt 15, []), (4, .iload_n 1, []), (5, .aload_n 0, []), (6, .getfield 31, [3, 6]), (9, .if_icmp .ge 7, []), (12, .iconst 1, []), (13, .goto 4, [])]
set_option maxRecDepth 20000 in
def mB47_16 : mCodeT := [(16, .iconst 0, [])]
set_option maxRecDepth 20000 in
def mB47_17 : mCodeT := [(17, .ireturn, [])]
set_option maxRecDepth 20000 in
def mC47 : mCodeT := mB47_0 ++ (mB47_16 ++ (mB47_17))
def mM47 : mRec := (yX4_hasLook, cX4_hasLook, 2, (some .boolean), [], [], mC47)
-- LaneEyes$Pool.xOf(I)I
set_option maxRecDepth 20000 in
def mB48_0 : mCodeT := [(0, .aload_n 0, []), (1, .getfield 9, [3, 0]), (4, .iconst 1, []), (5, .if_icmp .ge 7, []), (8, .iconst 0, []), (9, .goto 9, [])]
set_option maxRecDepth 20000 in
def mB48_12 : mCodeT := [(12, .iload_n 1, []), (13, .aload_n 0, []), (14, .getfield 9, [3, 0]), (17, .irem, [])]
set_option maxRecDepth 20000 in
def mB48_18 : mCodeT := [(18, .ireturn, [])]
set_option maxRecDepth 20000 in
def mC48 : mCodeT := mB48_0 ++ (mB48_12 ++ (mB48_18))
def mM48 : mRec := (yX4_xOf, cX4_xOf, 2, (some .int), [], [], mC48)
-- LaneEyes$Pool.yOf(I)I
set_option maxRecDepth 20000 in
def mB49_0 : mCodeT := [(0, .aload_n 0, []), (1, .getfield 9, [3, 0]), (4, .iconst 1, []), (5, .if_icmp .ge 7, []), (8, .iconst 0, []), (9, .goto 9, [])]
set_option maxRecDepth 20000 in
def mB49_12 : mCodeT := [(12, .iload_n 1, []), (13, .aload_n 0, []), (14, .getfield 9, [3, 0]), (17, .idiv, [])]
set_option maxRecDepth 20000 in
def mB49_18 : mCodeT := [(18, .ireturn, [])]
set_option maxRecDepth 20000 in
def mC49 : mCodeT := mB49_0 ++ (mB49_12 ++ (mB49_18))
def mM49 : mRec := (yX4_yOf, cX4_yOf, 2, (some .int), [], [], mC49)
-- LaneEyes$Pool.between(II)I
set_option maxRecDepth 20000 in
def mB50_0 : mCodeT := [(0, .aload_n 0, []), (1, .iload_n 1, []), (2, .invokevirtual 78, [0, 48, 1, 3]), (5, .aload_n 0, []), (6, .iload_n 2, []), (7, .invokevirtual 78, [0, 48, 1, 3]), (10, .isub, []), (11, .invokestatic 82, [9012, 99999]), (14, .aload_n 0, []), (15, .iload_n 1, []), (16, .invokevirtual 87, [0, 49, 1, 3]), (19, .aload_n 0, []), (20, .iload_n 2, []), (21, .invokevirtual 87, [0, 49, 1, 3]), (24, .isub, []), (25, .invokestatic 82, [9012, 99999]), (28, .iadd, []), (29, .ireturn, [])]
set_option maxRecDepth 20000 in
def mC50 : mCodeT := mB50_0
def mM50 : mRec := (yX4_between, cX4_between, 3, (some .int), [], [], mC50)
-- LaneEyes$Round.<init>()V
set_option maxRecDepth 20000 in
def mB51_0 : mCodeT := [(0, .aload_n 0, []), (1, .invokespecial 3, [9002, 99999]), (4, .aload_n 0, []), (5, .bipush 13, []), (7, .newarray .int, [100]), (9, .putfield 9, [4, 0]), (12, .aload_n 0, []), (13, .bipush 13, []), (15, .newarray .int, [100]), (17, .putfield 15, [4, 1]), (20, .aload_n 0, []), (21, .iconst 0, []), (22, .putfield 18, [4, 2]), (25, .aload_n 0, []), (26, .bipush 108, []), (28, .newarray .int, [100]), (30, .putfield 22, [4, 3]), (33, .aload_n 0, []), (34, .iconst 0, []), (35, .putfield 25, [4, 4]), (38, .aload_n 0, []), (39, .iconst (-1), []), (40, .putfield 28, [4, 5]), (43, .aload_n 0, []), (44, .iconst 0, []), (45, .putfield 31, [4, 6]), (48, .return_, [])]
set_option maxRecDepth 20000 in
def mC51 : mCodeT := mB51_0
def mM51 : mRec := (yX5_init, cX5_init, 1, none, [], [], mC51)
-- LaneEyes$Round.empty()V
set_option maxRecDepth 20000 in
def mB52_0 : mCodeT := [(0, .aload_n 0, []), (1, .iconst 0, []), (2, .putfield 18, [4, 2]), (5, .return_, [])]
set_option maxRecDepth 20000 in
def mC52 : mCodeT := mB52_0
def mM52 : mRec := (yX5_empty, cX5_empty, 1, none, [], [], mC52)
-- LaneEyes$Round.add(II)V
set_option maxRecDepth 20000 in
def mB53_0 : mCodeT := [(0, .iload_n 2, []), (1, .ifCond .le 45, []), (4, .aload_n 0, []), (5, .getfield 18, [4, 2]), (8, .aload_n 0, []), (9, .getfield 9, [4, 0]), (12, .arraylength, []), (13, .if_icmp .ge 33, []), (16, .aload_n 0, []), (17, .getfield 9, [4, 0]), (20, .aload_n 0, []), (21, .getfield 18, [4, 2]), (24, .iload_n 1, []), (25, .iastore, []), (26, .aload_n 0, []), (27, .getfield 15, [4, 1]), (30, .aload_n 0, []), (31, .getfield 18, [4, 2]), (34, .iload_n 2, []), (35, .iastore, []), (36, .aload_n 0, []), (37, .dup, []), (38, .getfield 18, [4, 2]), (41, .iconst 1, []), (42, .iadd, []), (43, .putfield 18, [4, 2])]
set_option maxRecDepth 20000 in
def mB53_46 : mCodeT := [(46, .return_, [])]
set_option maxRecDepth 20000 in
def mC53 : mCodeT := mB53_0 ++ (mB53_46)
def mM53 : mRec := (yX5_add, cX5_add, 3, none, [], [], mC53)
-- LaneEyes$Round.longestDelay(II)I
set_option maxRecDepth 20000 in
def mB54_0 : mCodeT := [(0, .aload_n 0, []), (1, .iload_n 1, []), (2, .invokevirtual 34, [0, 55, 1, 4]), (5, .istore_n 3, []), (6, .iload_n 3, []), (7, .iconst (-1), []), (8, .if_icmp .ne 17, []), (11, .aload_n 0, []), (12, .getfield 18, [4, 2]), (15, .ifCond .ne 8, []), (18, .ldc 38, [2147483647]), (20, .goto 4, [])]
set_option maxRecDepth 20000 in
def mB54_23 : mCodeT := [(23, .iload_n 2, [])]
set_option maxRecDepth 20000 in
def mB54_24 : mCodeT := [(24, .ireturn, [])]
set_option maxRecDepth 20000 in
def mB54_25 : mCodeT := [(25, .aload_n 0, []), (26, .iconst 0, []), (27, .putfield 25, [4, 4]), (30, .aload_n 0, []), (31, .iconst (-1), []), (32, .putfield 28, [4, 5]), (35, .aload_n 0, []), (36, .iconst 0, []), (37, .putfield 31, [4, 6]), (40, .iconst 0, []), (41, .istore 4, []), (43, .iload_n 3, []), (44, .istore 5, []), (46, .iconst 0, []), (47, .istore 6, [])]
set_option maxRecDepth 20000 in
def mB54_49 : mCodeT := [(49, .iload 6, []), (51, .aload_n 0, []), (52, .getfield 18, [4, 2]), (55, .if_icmp .ge 82, []), (58, .aload_n 0, []), (59, .getfield 9, [4, 0]), (62, .iload 5, []), (64, .iaload, []), (65, .iload_n 1, []), (66, .if_icmp .ne 18, []), (69, .iload 4, []), (71, .aload_n 0, []), (72, .getfield 15, [4, 1]), (75, .iload 5, []), (77, .iaload, []), (78, .iadd, []), (79, .istore 4, []), (81, .goto 29, [])]
set_option maxRecDepth 20000 in
def mB54_84 : mCodeT := [(84, .aload_n 0, []), (85, .iload 4, []), (87, .iload_n 2, []), (88, .invokevirtual 39, [0, 56, 2, 4]), (91, .iconst 0, []), (92, .istore 4, []), (94, .aload_n 0, []), (95, .dup, []), (96, .getfield 25, [4, 4]), (99, .aload_n 0, []), (100, .getfield 15, [4, 1]), (103, .iload 5, []), (105, .iaload, []), (106, .iadd, []), (107, .putfield 25, [4, 4])]
set_option maxRecDepth 20000 in
def mB54_110 : mCodeT := [(110, .iload 5, []), (112, .iconst 1, []), (113, .iadd, []), (114, .aload_n 0, []), (115, .getfield 18, [4, 2]), (118, .if_icmp .ge 10, []), (121, .iload 5, []), (123, .iconst 1, []), (124, .iadd, []), (125, .goto 4, [])]
set_option maxRecDepth 20000 in
def mB54_128 : mCodeT := [(128, .iconst 0, [])]
set_option maxRecDepth 20000 in
def mB54_129 : mCodeT := [(129, .istore 5, []), (131, .iinc 6 1, []), (134, .goto (-85), [])]
set_option maxRecDepth 20000 in
def mB54_137 : mCodeT := [(137, .aload_n 0, []), (138, .iload 4, []), (140, .iload_n 2, []), (141, .invokevirtual 39, [0, 56, 2, 4]), (144, .aload_n 0, []), (145, .getfield 28, [4, 5]), (148, .iconst (-1), []), (149, .if_icmp .ne 6, []), (152, .ldc 38, [2147483647]), (154, .ireturn, [])]
set_option maxRecDepth 20000 in
def mB54_155 : mCodeT := [(155, .aload_n 0, []), (156, .getfield 31, [4, 6]), (159, .aload_n 0, []), (160, .getfield 25, [4, 4]), (163, .aload_n 0, []), (164, .getfield 28, [4, 5]), (167, .iadd, []), (168, .invokestatic 43, [9010, 99999]), (171, .iconst 2, []), (172, .iload_n 2, []), (173, .imul, []), (174, .iadd, []), (175, .iconst 1, []), (176, .isub, []), (177, .ireturn, [])]
set_option maxRecDepth 20000 in
def mC54 : mCodeT := mB54_0 ++ (mB54_23 ++ (mB54_24 ++ (mB54_25 ++ (mB54_49 ++ (mB54_84 ++ (mB54_110 ++ (mB54_128 ++ (mB54_129 ++ (mB54_137 ++ (mB54_155))))))))))
def mM54 : mRec := (yX5_longestDelay, cX5_longestDelay, 7, (some .int), [], [], mC54)
-- LaneEyes$Round.lookElsewhere(I)I
set_option maxRecDepth 20000 in
def mB55_0 : mCodeT := [(0, .iconst 0, []), (1, .istore_n 2, [])]
set_option maxRecDepth 20000 in
def mB55_2 : mCodeT := [(2, .iload_n 2, []), (3, .aload_n 0, []), (4, .getfield 18, [4, 2]), (7, .if_icmp .ge 21, []), (10, .aload_n 0, []), (11, .getfield 9, [4, 0]), (14, .iload_n 2, []), (15, .iaload, []), (16, .iload_n 1, []), (17, .if_icmp .eq 5, []), (20, .iload_n 2, []), (21, .ireturn, [])]
set_option maxRecDepth 20000 in
def mB55_22 : mCodeT := [(22, .iinc 2 1, []), (25, .goto (-23), [])]
set_option maxRecDepth 20000 in
def mB55_28 : mCodeT := [(28, .iconst (-1), []), (29, .ireturn, [])]
set_option maxRecDepth 20000 in
def mC55 : mCodeT := mB55_0 ++ (mB55_2 ++ (mB55_22 ++ (mB55_28)))
def mM55 : mRec := (yX5_lookElsewhere, cX5_lookElsewhere, 3, (some .int), [], [], mC55)
-- LaneEyes$Round.endStretch(II)V
set_option maxRecDepth 20000 in
def mB56_0 : mCodeT := [(0, .iload_n 1, []), (1, .iload_n 2, []), (2, .if_icmp .ge 14, []), (5, .aload_n 0, []), (6, .dup, []), (7, .getfield 25, [4, 4]), (10, .iload_n 1, []), (11, .iadd, []), (12, .putfield 25, [4, 4]), (15, .return_, [])]
set_option maxRecDepth 20000 in
def mB56_16 : mCodeT := [(16, .aload_n 0, []), (17, .getfield 28, [4, 5]), (20, .iconst (-1), []), (21, .if_icmp .ne 14, []), (24, .aload_n 0, []), (25, .aload_n 0, []), (26, .getfield 25, [4, 4]), (29, .putfield 28, [4, 5]), (32, .goto 18, [])]
set_option maxRecDepth 20000 in
def mB56_35 : mCodeT := [(35, .aload_n 0, []), (36, .aload_n 0, []), (37, .getfield 31, [4, 6]), (40, .aload_n 0, []), (41, .getfield 25, [4, 4]), (44, .invokestatic 43, [9010, 99999]), (47, .putfield 31, [4, 6])]
set_option maxRecDepth 20000 in
def mB56_50 : mCodeT := [(50, .aload_n 0, []), (51, .iconst 0, []), (52, .putfield 25, [4, 4]), (55, .return_, [])]
set_option maxRecDepth 20000 in
def mC56 : mCodeT := mB56_0 ++ (mB56_16 ++ (mB56_35 ++ (mB56_50)))
def mM56 : mRec := (yX5_endStretch, cX5_endStretch, 3, none, [], [], mC56)
-- LaneEyes$Round.fillDelays(II[I)V
set_option maxRecDepth 20000 in
def mB57_0 : mCodeT := [(0, .aload_n 0, []), (1, .invokevirtual 49, [0, 58, 0, 4]), (4, .istore 4, []), (6, .iload 4, []), (8, .ifCond .ne 4, []), (11, .return_, [])]
set_option maxRecDepth 20000 in
def mB57_12 : mCodeT := [(12, .iconst 0, []), (13, .istore 5, []), (15, .ldc 38, [2147483647]), (17, .istore 6, []), (19, .iconst 2, []), (20, .iload 4, []), (22, .imul, []), (23, .bipush 30, []), (25, .iadd, []), (26, .istore 7, [])]
set_option maxRecDepth 20000 in
def mB57_28 : mCodeT := [(28, .iload 7, []), (30, .ifCond .lt 75, []), (33, .aload_n 0, []), (34, .getfield 22, [4, 3]), (37, .iload 7, []), (39, .iload 4, []), (41, .irem, []), (42, .iaload, []), (43, .iload_n 1, []), (44, .if_icmp .ne 10, []), (47, .iload 5, []), (49, .iconst 1, []), (50, .iadd, []), (51, .goto 4, [])]
set_option maxRecDepth 20000 in
def mB57_54 : mCodeT := [(54, .iconst 0, [])]
set_option maxRecDepth 20000 in
def mB57_55 : mCodeT := [(55, .istore 5, []), (57, .iload 5, []), (59, .iload_n 2, []), (60, .if_icmp .lt 9, []), (63, .iload_n 2, []), (64, .istore 6, []), (66, .goto 13, [])]
set_option maxRecDepth 20000 in
def mB57_69 : mCodeT := [(69, .iload 6, []), (71, .ldc 38, [2147483647]), (73, .if_icmp .eq 6, []), (76, .iinc 6 1, [])]
set_option maxRecDepth 20000 in
def mB57_79 : mCodeT := [(79, .iload 7, []), (81, .iload 4, []), (83, .if_icmp .ge 16, []), (86, .iload 7, []), (88, .aload_n 3, []), (89, .arraylength, []), (90, .if_icmp .ge 9, []), (93, .aload_n 3, []), (94, .iload 7, []), (96, .iload 6, []), (98, .iastore, [])]
set_option maxRecDepth 20000 in
def mB57_99 : mCodeT := [(99, .iinc 7 (-1), []), (102, .goto (-74), [])]
set_option maxRecDepth 20000 in
def mB57_105 : mCodeT := [(105, .return_, [])]
set_option maxRecDepth 20000 in
def mC57 : mCodeT := mB57_0 ++ (mB57_12 ++ (mB57_28 ++ (mB57_54 ++ (mB57_55 ++ (mB57_69 ++ (mB57_79 ++ (mB57_99 ++ (mB57_105))))))))
def mM57 : mRec := (yX5_fillDelays, cX5_fillDelays, 8, none, [], [], mC57)
-- LaneEyes$Round.spread()I
set_option maxRecDepth 20000 in
def mB58_0 : mCodeT := [(0, .iconst 0, []), (1, .istore_n 1, []), (2, .iconst 0, []), (3, .istore_n 2, [])]
set_option maxRecDepth 20000 in
def mB58_4 : mCodeT := [(4, .iload_n 2, []), (5, .aload_n 0, []), (6, .getfield 18, [4, 2]), (9, .if_icmp .ge 51, []), (12, .iconst 0, []), (13, .istore_n 3, [])]
set_option maxRecDepth 20000 in
def mB58_14 : mCodeT := [(14, .iload_n 3, []), (15, .aload_n 0, []), (16, .getfield 15, [4, 1]), (19, .iload_n 2, []), (20, .iaload, []), (21, .if_icmp .ge 33, []), (24, .iload_n 1, []), (25, .aload_n 0, []), (26, .getfield 22, [4, 3]), (29, .arraylength, []), (30, .if_icmp .ge 24, []), (33, .aload_n 0, []), (34, .getfield 22, [4, 3]), (37, .iload_n 1, []), (38, .aload_n 0, []), (39, .getfield 9, [4, 0]), (42, .iload_n 2, []), (43, .iaload, []), (44, .iastore, []), (45, .iinc 1 1, []), (48, .iinc 3 1, []), (51, .goto (-37), [])]
set_option maxRecDepth 20000 in
def mB58_54 : mCodeT := [(54, .iinc 2 1, []), (57, .goto (-53), [])]
set_option maxRecDepth 20000 in
def mB58_60 : mCodeT := [(60, .iload_n 1, []), (61, .ireturn, [])]
set_option maxRecDepth 20000 in
def mC58 : mCodeT := mB58_0 ++ (mB58_4 ++ (mB58_14 ++ (mB58_54 ++ (mB58_60))))
def mM58 : mRec := (yX5_spread, cX5_spread, 4, (some .int), [], [], mC58)
-- LaneEyes$Rules.<init>()V
set_option maxRecDepth 20000 in
def mB59_0 : mCodeT := [(0, .aload_n 0, []), (1, .invokespecial 3, [9002, 99999]), (4, .aload_n 0, []), (5, .sipush 700, []), (8, .newarray .int, [100]), (10, .putfield 9, [5, 0]), (13, .aload_n 0, []), (14, .iconst 0, []), (15, .putfield 15, [5, 1]), (18, .aload_n 0, []), (19, .bipush 6, []), (21, .newarray .int, [100]), (23, .putfield 19, [5, 2]), (26, .aload_n 0, []), (27, .bipush 6, []), (29, .newarray .int, [100]), (31, .putfield 22, [5, 3]), (34, .aload_n 0, []), (35, .bipush 64, []), (37, .newarray .int, [100]), (39, .putfield 25, [5, 4]), (42, .aload_n 0, []), (43, .iconst 0, []), (44, .putfield 28, [5, 5]), (47, .return_, [])]
set_option maxRecDepth 20000 in
def mC59 : mCodeT := mB59_0
def mM59 : mRec := (yX6_init, cX6_init, 1, none, [], [], mC59)
-- LaneEyes$Rules.clear()V
set_option maxRecDepth 20000 in
def mB60_0 : mCodeT := [(0, .aload_n 0, []), (1, .iconst 0, []), (2, .putfield 15, [5, 1]), (5, .aload_n 0, []), (6, .iconst 0, []), (7, .putfield 28, [5, 5]), (10, .aload_n 0, []), (11, .getfield 19, [5, 2]), (14, .iconst 0, []), (15, .invokestatic 32, [1, 300, 2]), (18, .aload_n 0, []), (19, .getfield 22, [5, 3]), (22, .iconst 0, []), (23, .invokestatic 32, [1, 300, 2]), (26, .return_, [])]
set_option maxRecDepth 20000 in
def mC60 : mCodeT := mB60_0
def mM60 : mRec := (yX6_clear, cX6_clear, 1, none, [], [], mC60)
-- LaneEyes$Rules.copy(LLaneEyes$Rules;)V
set_option maxRecDepth 20000 in
def mB61_0 : mCodeT := [(0, .aload_n 0, []), (1, .aload_n 1, []), (2, .getfield 15, [5, 1]), (5, .putfield 15, [5, 1]), (8, .aload_n 0, []), (9, .aload_n 1, []), (10, .getfield 28, [5, 5]), (13, .putfield 28, [5, 5]), (16, .aload_n 1, []), (17, .getfield 9, [5, 0]), (20, .iconst 0, []), (21, .aload_n 0, []), (22, .getfield 9, [5, 0]), (25, .iconst 0, []), (26, .aload_n 1, []), (27, .getfield 15, [5, 1]), (30, .invokestatic 38, [9001, 99999]), (33, .aload_n 1, []), (34, .getfield 19, [5, 2]), (37, .iconst 0, []), (38, .aload_n 0, []), (39, .getfield 19, [5, 2]), (42, .iconst 0, []), (43, .aload_n 0, []), (44, .getfield 19, [5, 2]), (47, .arraylength, []), (48, .invokestatic 38, [9001, 99999]), (51, .aload_n 1, []), (52, .getfield 22, [5, 3]), (55, .iconst 0, []), (56, .aload_n 0, []), (57, .getfield 22, [5, 3]), (60, .iconst 0, []), (61, .aload_n 0, []), (62, .getfield 22, [5, 3]), (65, .arraylength, []), (66, .invokestatic 38, [9001, 99999]), (69, .return_, [])]
set_option maxRecDepth 20000 in
def mC61 : mCodeT := mB61_0
def mM61 : mRec := (yX6_copy, cX6_copy, 2, none, [], [], mC61)
-- LaneEyes$Rules.open(I)V
set_option maxRecDepth 20000 in
def mB62_0 : mCodeT := [(0, .aload_n 0, []), (1, .getfield 19, [5, 2]), (4, .iload_n 1, []), (5, .aload_n 0, []), (6, .getfield 15, [5, 1]), (9, .iastore, []), (10, .return_, [])]
set_option maxRecDepth 20000 in
def mC62 : mCodeT := mB62_0
def mM62 : mRec := (yX6_open, cX6_open, 2, none, [], [], mC62)
-- LaneEyes$Rules.close(I)V
set_option maxRecDepth 20000 in
def mB63_0 : mCodeT := [(0, .aload_n 0, []), (1, .getfield 22, [5, 3]), (4, .iload_n 1, []), (5, .aload_n 0, []), (6, .getfield 15, [5, 1]), (9, .iastore, []), (10, .return_, [])]
set_option maxRecDepth 20000 in
def mC63 : mCodeT := mB63_0
def mM63 : mRec := (yX6_close, cX6_close, 2, none, [], [], mC63)
-- LaneEyes$Rules.has(I)Z
set_option maxRecDepth 20000 in
def mB64_0 : mCodeT := [(0, .aload_n 0, []), (1, .getfield 19, [5, 2]), (4, .iload_n 1, []), (5, .iaload, []), (6, .aload_n 0, []), (7, .getfield 22, [5, 3]), (10, .iload_n 1, []), (11, .iaload, []), (12, .if_icmp .ge 7, []), (15, .iconst 1, []), (16, .goto 4, [])]
set_option maxRecDepth 20000 in
def mB64_19 : mCodeT := [(19, .iconst 0, [])]
set_option maxRecDepth 20000 in
def mB64_20 : mCodeT := [(20, .ireturn, [])]
set_option maxRecDepth 20000 in
def mC64 : mCodeT := mB64_0 ++ (mB64_19 ++ (mB64_20))
def mM64 : mRec := (yX6_has, cX6_has, 2, (some .boolean), [], [], mC64)
-- LaneEyes$Rules.put(I)V
set_option maxRecDepth 20000 in
def mB65_0 : mCodeT := [(0, .aload_n 0, []), (1, .getfield 15, [5, 1]), (4, .aload_n 0, []), (5, .getfield 9, [5, 0]), (8, .arraylength, []), (9, .if_icmp .ge 23, []), (12, .aload_n 0, []), (13, .getfield 9, [5, 0]), (16, .aload_n 0, []), (17, .getfield 15, [5, 1]), (20, .iload_n 1, []), (21, .iastore, []), (22, .aload_n 0, []), (23, .dup, []), (24, .getfield 15, [5, 1]), (27, .iconst 1, []), (28, .iadd, []), (29, .putfield 15, [5, 1])]
set_option maxRecDepth 20000 in
def mB65_32 : mCodeT := [(32, .iload_n 1, []), (33, .bipush (-24), []), (35, .if_icmp .ne 8, []), (38, .aload_n 0, []), (39, .iconst 1, []), (40, .putfield 28, [5, 5])]
set_option maxRecDepth 20000 in
def mB65_43 : mCodeT := [(43, .return_, [])]
set_option maxRecDepth 20000 in
def mC65 : mCodeT := mB65_0 ++ (mB65_32 ++ (mB65_43))
def mM65 : mRec := (yX6_put, cX6_put, 2, none, [], [], mC65)
-- LaneEyes$Rules.gives(I[I)I
set_option maxRecDepth 20000 in
def mB66_0 : mCodeT := [(0, .iconst 0, []), (1, .istore_n 3, []), (2, .aload_n 0, []), (3, .getfield 19, [5, 2]), (6, .iload_n 1, []), (7, .iaload, []), (8, .istore 4, [])]
set_option maxRecDepth 20000 in
def mB66_10 : mCodeT := [(10, .iload 4, []), (12, .aload_n 0, []), (13, .getfield 22, [5, 3]), (16, .iload_n 1, []), (17, .iaload, []), (18, .if_icmp .ge 144, []), (21, .aload_n 0, []), (22, .getfield 9, [5, 0]), (25, .iload 4, []), (27, .iaload, []), (28, .istore 5, []), (30, .iload 5, []), (32, .ifCond .ge 10, []), (35, .iload 5, []), (37, .bipush (-20), []), (39, .if_icmp .gt 41, [])]
set_option maxRecDepth 20000 in
def mB66_42 : mCodeT := [(42, .iload_n 3, []), (43, .aload_n 0, []), (44, .getfield 25, [5, 4]), (47, .arraylength, []), (48, .if_icmp .ge 108, []), (51, .aload_n 0, []), (52, .getfield 25, [5, 4]), (55, .iload_n 3, []), (56, .iload 5, []), (58, .ifCond .lt 8, []), (61, .iload 5, []), (63, .goto 10, [])]
set_option maxRecDepth 20000 in
def mB66_66 : mCodeT := [(66, .aload_n 2, []), (67, .bipush (-20), []), (69, .iload 5, []), (71, .isub, []), (72, .iaload, [])]
set_option maxRecDepth 20000 in
def mB66_73 : mCodeT := [(73, .iastore, []), (74, .iinc 3 1, []), (77, .goto 79, [])]
set_option maxRecDepth 20000 in
def mB66_80 : mCodeT := [(80, .iload 5, []), (82, .bipush (-3), []), (84, .if_icmp .ne 35, []), (87, .iload_n 3, []), (88, .iconst 1, []), (89, .if_icmp .lt 67, []), (92, .aload_n 0, []), (93, .getfield 25, [5, 4]), (96, .iload_n 3, []), (97, .iconst 1, []), (98, .isub, []), (99, .aload_n 0, []), (100, .getfield 25, [5, 4]), (103, .iload_n 3, []), (104, .iconst 1, []), (105, .isub, []), (106, .iaload, []), (107, .ifCond .ne 7, []), (110, .iconst 1, []), (111, .goto 4, [])]
set_option maxRecDepth 20000 in
def mB66_114 : mCodeT := [(114, .iconst 0, [])]
set_option maxRecDepth 20000 in
def mB66_115 : mCodeT := [(115, .iastore, []), (116, .goto 40, [])]
set_option maxRecDepth 20000 in
def mB66_119 : mCodeT := [(119, .iload_n 3, []), (120, .iconst 2, []), (121, .if_icmp .lt 35, []), (124, .aload_n 0, []), (125, .getfield 25, [5, 4]), (128, .iload_n 3, []), (129, .iconst 2, []), (130, .isub, []), (131, .iload 5, []), (133, .aload_n 0, []), (134, .getfield 25, [5, 4]), (137, .iload_n 3, []), (138, .iconst 2, []), (139, .isub, []), (140, .iaload, []), (141, .aload_n 0, []), (142, .getfield 25, [5, 4]), (145, .iload_n 3, []), (146, .iconst 1, []), (147, .isub, []), (148, .iaload, []), (149, .invokestatic 44, [1, 67, 3]), (152, .iastore, []), (153, .iinc 3 (-1), [])]
set_option maxRecDepth 20000 in
def mB66_156 : mCodeT := [(156, .iinc 4 1, []), (159, .goto (-149), [])]
set_option maxRecDepth 20000 in
def mB66_162 : mCodeT := [(162, .iload_n 3, []), (163, .iconst 1, []), (164, .if_icmp .lt 14, []), (167, .aload_n 0, []), (168, .getfield 25, [5, 4]), (171, .iload_n 3, []), (172, .iconst 1, []), (173, .isub, []), (174, .iaload, []), (175, .goto 4, [])]
set_option maxRecDepth 20000 in
def mB66_178 : mCodeT := [(178, .iconst 0, [])]
set_option maxRecDepth 20000 in
def mB66_179 : mCodeT := [(179, .ireturn, [])]
set_option maxRecDepth 20000 in
def mC66 : mCodeT := mB66_0 ++ (mB66_10 ++ (mB66_42 ++ (mB66_66 ++ (mB66_73 ++ (mB66_80 ++ (mB66_114 ++ (mB66_115 ++ (mB66_119 ++ (mB66_156 ++ (mB66_162 ++ (mB66_178 ++ (mB66_179))))))))))))
def mM66 : mRec := (yX6_gives, cX6_gives, 6, (some .int), [], [], mC66)
-- LaneEyes$Rules.joined(III)I
set_option maxRecDepth 20000 in
def mB67_0 : mCodeT := [(0, .iload_n 0, []), (1, .tableswitch 109 (-8) (-1) #[105, 101, 97, 86, 75, 109, 61, 47], [])]
set_option maxRecDepth 20000 in
def mB67_48 : mCodeT := [(48, .iload_n 1, []), (49, .ifCond .ne 7, []), (52, .iload_n 2, []), (53, .ifCond .eq 7, [])]
set_option maxRecDepth 20000 in
def mB67_56 : mCodeT := [(56, .iconst 1, []), (57, .goto 4, [])]
set_option maxRecDepth 20000 in
def mB67_60 : mCodeT := [(60, .iconst 0, [])]
set_option maxRecDepth 20000 in
def mB67_61 : mCodeT := [(61, .ireturn, [])]
set_option maxRecDepth 20000 in
def mB67_62 : mCodeT := [(62, .iload_n 1, []), (63, .ifCond .eq 11, []), (66, .iload_n 2, []), (67, .ifCond .eq 7, []), (70, .iconst 1, []), (71, .goto 4, [])]
set_option maxRecDepth 20000 in
def mB67_74 : mCodeT := [(74, .iconst 0, [])]
set_option maxRecDepth 20000 in
def mB67_75 : mCodeT := [(75, .ireturn, [])]
set_option maxRecDepth 20000 in
def mB67_76 : mCodeT := [(76, .iload_n 1, []), (77, .iload_n 2, []), (78, .if_icmp .ge 7, []), (81, .iconst 1, []), (82, .goto 4, [])]
set_option maxRecDepth 20000 in
def mB67_85 : mCodeT := [(85, .iconst 0, [])]
set_option maxRecDepth 20000 in
def mB67_86 : mCodeT := [(86, .ireturn, [])]
set_option maxRecDepth 20000 in
def mB67_87 : mCodeT := [(87, .iload_n 1, []), (88, .iload_n 2, []), (89, .if_icmp .ne 7, []), (92, .iconst 1, []), (93, .goto 4, [])]
set_option maxRecDepth 20000 in
def mB67_96 : mCodeT := [(96, .iconst 0, [])]
set_option maxRecDepth 20000 in
def mB67_97 : mCodeT := [(97, .ireturn, [])]
set_option maxRecDepth 20000 in
def mB67_98 : mCodeT := [(98, .iload_n 1, []), (99, .iload_n 2, []), (100, .iadd, []), (101, .ireturn, [])]
set_option maxRecDepth 20000 in
def mB67_102 : mCodeT := [(102, .iload_n 1, []), (103, .iload_n 2, []), (104, .isub, []), (105, .ireturn, [])]
set_option maxRecDepth 20000 in
def mB67_106 : mCodeT := [(106, .iload_n 1, []), (107, .iload_n 2, []), (108, .imul, []), (109, .ireturn, [])]
set_option maxRecDepth 20000 in
def mB67_110 : mCodeT := [(110, .iload_n 2, []), (111, .ifCond .ne 7, []), (114, .iconst 0, []), (115, .goto 6, [])]
set_option maxRecDepth 20000 in
def mB67_118 : mCodeT := [(118, .iload_n 1, []), (119, .iload_n 2, []), (120, .idiv, [])]
set_option maxRecDepth 20000 in
def mB67_121 : mCodeT := [(121, .ireturn, [])]
set_option maxRecDepth 20000 in
def mC67 : mCodeT := mB67_0 ++ (mB67_48 ++ (mB67_56 ++ (mB67_60 ++ (mB67_61 ++ (mB67_62 ++ (mB67_74 ++ (mB67_75 ++ (mB67_76 ++ (mB67_85 ++ (mB67_86 ++ (mB67_87 ++ (mB67_96 ++ (mB67_97 ++ (mB67_98 ++ (mB67_102 ++ (mB67_106 ++ (mB67_110 ++ (mB67_118 ++ (mB67_121)))))))))))))))))))
def mM67 : mRec := (yX6_joined, cX6_joined, 3, (some .int), [], [], mC67)
-- LaneEyes$Tokens.<init>()V
set_option maxRecDepth 20000 in
def mB68_0 : mCodeT := [(0, .aload_n 0, []), (1, .invokespecial 3, [9002, 99999]), (4, .aload_n 0, []), (5, .iconst 0, []), (6, .newarray .byte, [101]), (8, .putfield 9, [6, 0]), (11, .aload_n 0, []), (12, .iconst 0, []), (13, .putfield 15, [6, 1]), (16, .aload_n 0, []), (17, .iconst 0, []), (18, .putfield 19, [6, 2]), (21, .aload_n 0, []), (22, .iconst 0, []), (23, .putfield 22, [6, 3]), (26, .aload_n 0, []), (27, .iconst 0, []), (28, .putfield 25, [6, 4]), (31, .aload_n 0, []), (32, .aconst_null, []), (33, .putfield 28, [6, 5]), (36, .aload_n 0, []), (37, .iconst 0, []), (38, .putfield 32, [6, 6]), (41, .aload_n 0, []), (42, .iconst 0, []), (43, .putfield 35, [6, 7]), (46, .return_, [])]
set_option maxRecDepth 20000 in
def mC68 : mCodeT := mB68_0
def mM68 : mRec := (yX7_init, cX7_init, 1, none, [], [], mC68)
-- LaneEyes$Tokens.begin([BI)V
set_option maxRecDepth 20000 in
def mB69_0 : mCodeT := [(0, .aload_n 0, []), (1, .aload_n 1, []), (2, .putfield 9, [6, 0]), (5, .aload_n 0, []), (6, .iload_n 2, []), (7, .aload_n 1, []), (8, .arraylength, []), (9, .invokestatic 38, [9011, 99999]), (12, .putfield 15, [6, 1]), (15, .aload_n 0, []), (16, .iconst 0, []), (17, .putfield 19, [6, 2]), (20, .aload_n 0, []), (21, .invokevirtual 44, [0, 70, 0, 6]), (24, .return_, [])]
set_option maxRecDepth 20000 in
def mC69 : mCodeT := mB69_0
def mM69 : mRec := (yX7_begin, cX7_begin, 3, none, [], [], mC69)
-- LaneEyes$Tokens.advance()V
set_option maxRecDepth 20000 in
def mB70_0 : mCodeT := [(0, .aload_n 0, []), (1, .aload_n 0, []), (2, .getfield 19, [6, 2]), (5, .putfield 22, [6, 3])]
set_option maxRecDepth 20000 in
def mB70_8 : mCodeT := [(8, .aload_n 0, []), (9, .getfield 22, [6, 3]), (12, .aload_n 0, []), (13, .getfield 15, [6, 1]), (16, .if_icmp .ge 44, []), (19, .aload_n 0, []), (20, .getfield 9, [6, 0]), (23, .aload_n 0, []), (24, .getfield 22, [6, 3]), (27, .baload, []), (28, .bipush 32, []), (30, .if_icmp .eq 17, []), (33, .aload_n 0, []), (34, .getfield 9, [6, 0]), (37, .aload_n 0, []), (38, .getfield 22, [6, 3]), (41, .baload, []), (42, .bipush 10, []), (44, .if_icmp .ne 16, [])]
set_option maxRecDepth 20000 in
def mB70_47 : mCodeT := [(47, .aload_n 0, []), (48, .dup, []), (49, .getfield 22, [6, 3]), (52, .iconst 1, []), (53, .iadd, []), (54, .putfield 22, [6, 3]), (57, .goto (-49), [])]
set_option maxRecDepth 20000 in
def mB70_60 : mCodeT := [(60, .aload_n 0, []), (61, .aload_n 0, []), (62, .getfield 22, [6, 3]), (65, .putfield 19, [6, 2]), (68, .aload_n 0, []), (69, .aconst_null, []), (70, .putfield 28, [6, 5]), (73, .aload_n 0, []), (74, .getfield 22, [6, 3]), (77, .aload_n 0, []), (78, .getfield 15, [6, 1]), (81, .if_icmp .lt 11, []), (84, .aload_n 0, []), (85, .iconst 0, []), (86, .putfield 25, [6, 4]), (89, .goto 89, [])]
set_option maxRecDepth 20000 in
def mB70_92 : mCodeT := [(92, .aload_n 0, []), (93, .getfield 9, [6, 0]), (96, .aload_n 0, []), (97, .getfield 22, [6, 3]), (100, .baload, []), (101, .invokestatic 47, [1, 76, 1]), (104, .ifCond .eq 10, []), (107, .aload_n 0, []), (108, .invokevirtual 51, [0, 71, 0, 6]), (111, .goto 67, [])]
set_option maxRecDepth 20000 in
def mB70_114 : mCodeT := [(114, .aload_n 0, []), (115, .getfield 9, [6, 0]), (118, .aload_n 0, []), (119, .getfield 22, [6, 3]), (122, .baload, []), (123, .invokestatic 54, [1, 77, 1]), (126, .ifCond .eq 10, []), (129, .aload_n 0, []), (130, .invokevirtual 57, [0, 72, 0, 6]), (133, .goto 45, [])]
set_option maxRecDepth 20000 in
def mB70_136 : mCodeT := [(136, .aload_n 0, []), (137, .aload_n 0, []), (138, .getfield 9, [6, 0]), (141, .aload_n 0, []), (142, .getfield 22, [6, 3]), (145, .baload, []), (146, .putfield 35, [6, 7]), (149, .aload_n 0, []), (150, .aload_n 0, []), (151, .getfield 35, [6, 7]), (154, .invokestatic 60, [1, 78, 1]), (157, .ifCond .eq 7, []), (160, .iconst 3, []), (161, .goto 4, [])]
set_option maxRecDepth 20000 in
def mB70_164 : mCodeT := [(164, .iconst 4, [])]
set_option maxRecDepth 20000 in
def mB70_165 : mCodeT := [(165, .putfield 25, [6, 4]), (168, .aload_n 0, []), (169, .aload_n 0, []), (170, .getfield 22, [6, 3]), (173, .iconst 1, []), (174, .iadd, []), (175, .putfield 19, [6, 2])]
set_option maxRecDepth 20000 in
def mB70_178 : mCodeT := [(178, .return_, [])]
set_option maxRecDepth 20000 in
def mC70 : mCodeT := mB70_0 ++ (mB70_8 ++ (mB70_47 ++ (mB70_60 ++ (mB70_92 ++ (mB70_114 ++ (mB70_136 ++ (mB70_164 ++ (mB70_165 ++ (mB70_178)))))))))
def mM70 : mRec := (yX7_advance, cX7_advance, 1, none, [], [], mC70)
-- LaneEyes$Tokens.readWord()V
set_option maxRecDepth 20000 in
def mB71_0 : mCodeT := [(0, .aload_n 0, []), (1, .iconst 1, []), (2, .putfield 25, [6, 4])]
set_option maxRecDepth 20000 in
def mB71_5 : mCodeT := [(5, .aload_n 0, []), (6, .getfield 19, [6, 2]), (9, .aload_n 0, []), (10, .getfield 15, [6, 1]), (13, .if_icmp .ge 31, []), (16, .aload_n 0, []), (17, .getfield 9, [6, 0]), (20, .aload_n 0, []), (21, .getfield 19, [6, 2]), (24, .baload, []), (25, .invokestatic 47, [1, 76, 1]), (28, .ifCond .eq 16, []), (31, .aload_n 0, []), (32, .dup, []), (33, .getfield 19, [6, 2]), (36, .iconst 1, []), (37, .iadd, []), (38, .putfield 19, [6, 2]), (41, .goto (-36), [])]
set_option maxRecDepth 20000 in
def mB71_44 : mCodeT := [(44, .iconst 0, []), (45, .istore_n 1, [])]
set_option maxRecDepth 20000 in
def mB71_46 : mCodeT := [(46, .iload_n 1, []), (47, .getstatic 63, [6]), (50, .arraylength, []), (51, .if_icmp .ge 48, []), (54, .aload_n 0, []), (55, .getfield 28, [6, 5]), (58, .ifnonnull 41, []), (61, .getstatic 63, [6]), (64, .iload_n 1, []), (65, .aaload, []), (66, .aload_n 0, []), (67, .getfield 9, [6, 0]), (70, .aload_n 0, []), (71, .getfield 22, [6, 3]), (74, .aload_n 0, []), (75, .getfield 19, [6, 2]), (78, .invokevirtual 67, [5, 123, 3, 0]), (81, .ifCond .eq 12, []), (84, .aload_n 0, []), (85, .getstatic 63, [6]), (88, .iload_n 1, []), (89, .aaload, []), (90, .putfield 28, [6, 5])]
set_option maxRecDepth 20000 in
def mB71_93 : mCodeT := [(93, .iinc 1 1, []), (96, .goto (-50), [])]
set_option maxRecDepth 20000 in
def mB71_99 : mCodeT := [(99, .return_, [])]
set_option maxRecDepth 20000 in
def mC71 : mCodeT := mB71_0 ++ (mB71_5 ++ (mB71_44 ++ (mB71_46 ++ (mB71_93 ++ (mB71_99)))))
def mM71 : mRec := (yX7_readWord, cX7_readWord, 2, none, [], [], mC71)
-- LaneEyes$Tokens.readNumber()V
set_option maxRecDepth 20000 in
def mB72_0 : mCodeT := [(0, .aload_n 0, []), (1, .iconst 2, []), (2, .putfield 25, [6, 4]), (5, .aload_n 0, []), (6, .iconst 0, []), (7, .putfield 32, [6, 6])]
set_option maxRecDepth 20000 in
def mB72_10 : mCodeT := [(10, .aload_n 0, []), (11, .getfield 19, [6, 2]), (14, .aload_n 0, []), (15, .getfield 15, [6, 1]), (18, .if_icmp .ge 74, []), (21, .aload_n 0, []), (22, .getfield 9, [6, 0]), (25, .aload_n 0, []), (26, .getfield 19, [6, 2]), (29, .baload, []), (30, .invokestatic 54, [1, 77, 1]), (33, .ifCond .eq 59, []), (36, .aload_n 0, []), (37, .aload_n 0, []), (38, .getfield 19, [6, 2]), (41, .aload_n 0, []), (42, .getfield 22, [6, 3]), (45, .isub, []), (46, .iconst 4, []), (47, .if_icmp .ge 26, []), (50, .aload_n 0, []), (51, .getfield 32, [6, 6]), (54, .bipush 10, []), (56, .imul, []), (57, .aload_n 0, []), (58, .getfield 9, [6, 0]), (61, .aload_n 0, []), (62, .getfield 19, [6, 2]), (65, .baload, []), (66, .iadd, []), (67, .bipush 48, []), (69, .isub, []), (70, .goto 6, [])]
set_option maxRecDepth 20000 in
def mB72_73 : mCodeT := [(73, .sipush 10000, [])]
set_option maxRecDepth 20000 in
def mB72_76 : mCodeT := [(76, .putfield 32, [6, 6]), (79, .aload_n 0, []), (80, .dup, []), (81, .getfield 19, [6, 2]), (84, .iconst 1, []), (85, .iadd, []), (86, .putfield 19, [6, 2]), (89, .goto (-79), [])]
set_option maxRecDepth 20000 in
def mB72_92 : mCodeT := [(92, .return_, [])]
set_option maxRecDepth 20000 in
def mC72 : mCodeT := mB72_0 ++ (mB72_10 ++ (mB72_73 ++ (mB72_76 ++ (mB72_92))))
def mM72 : mRec := (yX7_readNumber, cX7_readNumber, 1, none, [], [], mC72)
-- LaneEyes$Tokens.isWord(LLaneEyes$Word;)Z
set_option maxRecDepth 20000 in
def mB73_0 : mCodeT := [(0, .aload_n 0, []), (1, .getfield 25, [6, 4]), (4, .iconst 1, []), (5, .if_icmp .ne 15, []), (8, .aload_n 0, []), (9, .getfield 28, [6, 5]), (12, .aload_n 1, []), (13, .if_acmp .ne 7, []), (16, .iconst 1, []), (17, .goto 4, [])]
set_option maxRecDepth 20000 in
def mB73_20 : mCodeT := [(20, .iconst 0, [])]
set_option maxRecDepth 20000 in
def mB73_21 : mCodeT := [(21, .ireturn, [])]
set_option maxRecDepth 20000 in
def mC73 : mCodeT := mB73_0 ++ (mB73_20 ++ (mB73_21))
def mM73 : mRec := (yX7_isWord, cX7_isWord, 2, (some .boolean), [], [], mC73)
-- LaneEyes$Tokens.isSign(C)Z
set_option maxRecDepth 20000 in
def mB74_0 : mCodeT := [(0, .aload_n 0, []), (1, .getfield 25, [6, 4]), (4, .iconst 3, []), (5, .if_icmp .ne 15, []), (8, .aload_n 0, []), (9, .getfield 35, [6, 7]), (12, .iload_n 1, []), (13, .if_icmp .ne 7, []), (16, .iconst 1, []), (17, .goto 4, [])]
set_option maxRecDepth 20000 in
def mB74_20 : mCodeT := [(20, .iconst 0, [])]
set_option maxRecDepth 20000 in
def mB74_21 : mCodeT := [(21, .ireturn, [])]
set_option maxRecDepth 20000 in
def mC74 : mCodeT := mB74_0 ++ (mB74_20 ++ (mB74_21))
def mM74 : mRec := (yX7_isSign, cX7_isSign, 2, (some .boolean), [], [], mC74)
-- LaneEyes$Tokens.mayBeginExpr()Z
set_option maxRecDepth 20000 in
def mB75_0 : mCodeT := [(0, .aload_n 0, []), (1, .getfield 25, [6, 4]), (4, .iconst 1, []), (5, .if_icmp .eq 20, []), (8, .aload_n 0, []), (9, .getfield 25, [6, 4]), (12, .iconst 2, []), (13, .if_icmp .eq 12, []), (16, .aload_n 0, []), (17, .bipush 40, []), (19, .invokevirtual 73, [0, 74, 1, 6]), (22, .ifCond .eq 7, [])]
set_option maxRecDepth 20000 in
def mB75_25 : mCodeT := [(25, .iconst 1, []), (26, .goto 4, [])]
set_option maxRecDepth 20000 in
def mB75_29 : mCodeT := [(29, .iconst 0, [])]
set_option maxRecDepth 20000 in
def mB75_30 : mCodeT := [(30, .ireturn, [])]
set_option maxRecDepth 20000 in
def mC75 : mCodeT := mB75_0 ++ (mB75_25 ++ (mB75_29 ++ (mB75_30)))
def mM75 : mRec := (yX7_mayBeginExpr, cX7_mayBeginExpr, 1, (some .boolean), [], [], mC75)
-- LaneEyes$Tokens.isLetter(I)Z
set_option maxRecDepth 20000 in
def mB76_0 : mCodeT := [(0, .iload_n 0, []), (1, .bipush 97, []), (3, .if_icmp .lt 13, []), (6, .iload_n 0, []), (7, .bipush 122, []), (9, .if_icmp .gt 7, []), (12, .iconst 1, []), (13, .goto 4, [])]
set_option maxRecDepth 20000 in
def mB76_16 : mCodeT := [(16, .iconst 0, [])]
set_option maxRecDepth 20000 in
def mB76_17 : mCodeT := [(17, .ireturn, [])]
set_option maxRecDepth 20000 in
def mC76 : mCodeT := mB76_0 ++ (mB76_16 ++ (mB76_17))
def mM76 : mRec := (yX7_isLetter, cX7_isLetter, 1, (some .boolean), [], [], mC76)
-- LaneEyes$Tokens.isDigit(I)Z
set_option maxRecDepth 20000 in
def mB77_0 : mCodeT := [(0, .iload_n 0, []), (1, .bipush 48, []), (3, .if_icmp .lt 13, []), (6, .iload_n 0, []), (7, .bipush 57, []), (9, .if_icmp .gt 7, []), (12, .iconst 1, []), (13, .goto 4, [])]
set_option maxRecDepth 20000 in
def mB77_16 : mCodeT := [(16, .iconst 0, [])]
set_option maxRecDepth 20000 in
def mB77_17 : mCodeT := [(17, .ireturn, [])]
set_option maxRecDepth 20000 in
def mC77 : mCodeT := mB77_0 ++ (mB77_16 ++ (mB77_17))
def mM77 : mRec := (yX7_isDigit, cX7_isDigit, 1, (some .boolean), [], [], mC77)
-- LaneEyes$Tokens.isSignByte(I)Z
set_option maxRecDepth 20000 in
def mB78_0 : mCodeT := [(0, .iload_n 0, []), (1, .bipush 59, []), (3, .if_icmp .eq 51, []), (6, .iload_n 0, []), (7, .bipush 40, []), (9, .if_icmp .eq 45, []), (12, .iload_n 0, []), (13, .bipush 41, []), (15, .if_icmp .eq 39, []), (18, .iload_n 0, []), (19, .bipush 43, []), (21, .if_icmp .eq 33, []), (24, .iload_n 0, []), (25, .bipush 45, []), (27, .if_icmp .eq 27, []), (30, .iload_n 0, []), (31, .bipush 42, []), (33, .if_icmp .eq 21, []), (36, .iload_n 0, []), (37, .bipush 47, []), (39, .if_icmp .eq 15, []), (42, .iload_n 0, []), (43, .bipush 60, []), (45, .if_icmp .eq 9, []), (48, .iload_n 0, []), (49, .bipush 61, []), (51, .if_icmp .ne 7, [])]
set_option maxRecDepth 20000 in
def mB78_54 : mCodeT := [(54, .iconst 1, []), (55, .goto 4, [])]
set_option maxRecDepth 20000 in
def mB78_58 : mCodeT := [(58, .iconst 0, [])]
set_option maxRecDepth 20000 in
def mB78_59 : mCodeT := [(59, .ireturn, [])]
set_option maxRecDepth 20000 in
def mC78 : mCodeT := mB78_0 ++ (mB78_54 ++ (mB78_58 ++ (mB78_59)))
def mM78 : mRec := (yX7_isSignByte, cX7_isSignByte, 1, (some .boolean), [], [], mC78)
-- LaneEyes$Watch.<init>()V
set_option maxRecDepth 20000 in
def mB79_0 : mCodeT := [(0, .aload_n 0, []), (1, .invokespecial 3, [9002, 99999]), (4, .aload_n 0, []), (5, .new 9, [3, 14]), (8, .dup, []), (9, .invokespecial 11, [3, 42, 0]), (12, .putfield 12, [7, 0]), (15, .aload_n 0, []), (16, .new 18, [0, 12]), (19, .dup, []), (20, .invokespecial 20, [4, 0, 0]), (23, .putfield 21, [7, 1]), (26, .aload_n 0, []), (27, .new 25, [4, 7]), (30, .dup, []), (31, .invokespecial 27, [4, 51, 0]), (34, .putfield 28, [7, 2]), (37, .aload_n 0, []), (38, .new 25, [4, 7]), (41, .dup, []), (42, .invokespecial 27, [4, 51, 0]), (45, .putfield 32, [7, 3]), (48, .aload_n 0, []), (49, .bipush 10, []), (51, .newarray .int, [100]), (53, .putfield 35, [7, 4]), (56, .aload_n 0, []), (57, .bipush 12, []), (59, .newarray .int, [100]), (61, .putfield 39, [7, 5]), (64, .aload_n 0, []), (65, .bipush 12, []), (67, .newarray .int, [100]), (69, .putfield 42, [7, 6]), (72, .aload_n 0, []), (73, .iconst 0, []), (74, .putfield 45, [7, 7]), (77, .aload_n 0, []), (78, .bipush 108, []), (80, .newarray .int, [100]), (82, .putfield 49, [7, 8]), (85, .aload_n 0, []), (86, .bipush 12, []), (88, .newarray .int, [100]), (90, .putfield 52, [7, 9]), (93, .return_, [])]
set_option maxRecDepth 20000 in
def mC79 : mCodeT := mB79_0
def mM79 : mRec := (yX8_init, cX8_init, 1, none, [], [], mC79)
-- LaneEyes$Watch.roundSeconds()I
set_option maxRecDepth 20000 in
def mB80_0 : mCodeT := [(0, .iconst 0, []), (1, .istore_n 1, []), (2, .iconst 0, []), (3, .istore_n 2, [])]
set_option maxRecDepth 20000 in
def mB80_4 : mCodeT := [(4, .iload_n 2, []), (5, .aload_n 0, []), (6, .getfield 12, [7, 0]), (9, .getfield 55, [3, 6]), (12, .if_icmp .ge 21, []), (15, .iload_n 1, []), (16, .aload_n 0, []), (17, .getfield 21, [7, 1]), (20, .getfield 58, [0, 3]), (23, .iload_n 2, []), (24, .iaload, []), (25, .iadd, []), (26, .istore_n 1, []), (27, .iinc 2 1, []), (30, .goto (-26), [])]
set_option maxRecDepth 20000 in
def mB80_33 : mCodeT := [(33, .iload_n 1, []), (34, .ireturn, [])]
set_option maxRecDepth 20000 in
def mC80 : mCodeT := mB80_0 ++ (mB80_4 ++ (mB80_33))
def mM80 : mRec := (yX8_roundSeconds, cX8_roundSeconds, 3, (some .int), [], [], mC80)
-- LaneEyes$Watch.cellsLookedAt()I
set_option maxRecDepth 20000 in
def mB81_0 : mCodeT := [(0, .lconst 0, []), (1, .lstore_n 1, []), (2, .iconst 0, []), (3, .istore_n 3, [])]
set_option maxRecDepth 20000 in
def mB81_4 : mCodeT := [(4, .iload_n 3, []), (5, .aload_n 0, []), (6, .getfield 12, [7, 0]), (9, .getfield 55, [3, 6]), (12, .if_icmp .ge 23, []), (15, .lload_n 1, []), (16, .lconst 1, []), (17, .aload_n 0, []), (18, .getfield 21, [7, 1]), (21, .getfield 61, [0, 2]), (24, .iload_n 3, []), (25, .iaload, []), (26, .lshl, []), (27, .lor, []), (28, .lstore_n 1, []), (29, .iinc 3 1, []), (32, .goto (-28), [])]
set_option maxRecDepth 20000 in
def mB81_35 : mCodeT := [(35, .lload_n 1, []), (36, .invokestatic 64, [1, 293, 1]), (39, .ireturn, [])]
set_option maxRecDepth 20000 in
def mC81 : mCodeT := mB81_0 ++ (mB81_4 ++ (mB81_35))
def mM81 : mRec := (yX8_cellsLookedAt, cX8_cellsLookedAt, 4, (some .int), [], [], mC81)
-- LaneEyes$Watch.whoIsIn(I)I
set_option maxRecDepth 20000 in
def mB82_0 : mCodeT := [(0, .iconst 0, []), (1, .istore_n 2, []), (2, .iconst 0, []), (3, .istore_n 3, [])]
set_option maxRecDepth 20000 in
def mB82_4 : mCodeT := [(4, .iload_n 3, []), (5, .aload_n 0, []), (6, .getfield 12, [7, 0]), (9, .getfield 70, [3, 4]), (12, .if_icmp .ge 28, []), (15, .aload_n 0, []), (16, .getfield 21, [7, 1]), (19, .getfield 73, [0, 0]), (22, .iload_n 3, []), (23, .iaload, []), (24, .iload_n 1, []), (25, .if_icmp .ne 9, []), (28, .iload_n 2, []), (29, .iconst 1, []), (30, .iload_n 3, []), (31, .ishl, []), (32, .ior, []), (33, .istore_n 2, [])]
set_option maxRecDepth 20000 in
def mB82_34 : mCodeT := [(34, .iinc 3 1, []), (37, .goto (-33), [])]
set_option maxRecDepth 20000 in
def mB82_40 : mCodeT := [(40, .iload_n 2, []), (41, .ireturn, [])]
set_option maxRecDepth 20000 in
def mC82 : mCodeT := mB82_0 ++ (mB82_4 ++ (mB82_34 ++ (mB82_40)))
def mM82 : mRec := (yX8_whoIsIn, cX8_whoIsIn, 4, (some .int), [], [], mC82)
-- LaneEyes$Watch.needNow(I)I
set_option maxRecDepth 20000 in
def mB83_0 : mCodeT := [(0, .aload_n 0, []), (1, .iload_n 1, []), (2, .aload_n 0, []), (3, .getfield 21, [7, 1]), (6, .getfield 76, [0, 1]), (9, .aload_n 0, []), (10, .getfield 21, [7, 1]), (13, .getfield 79, [0, 4]), (16, .iconst 0, []), (17, .invokevirtual 82, [0, 84, 4, 7]), (20, .ireturn, [])]
set_option maxRecDepth 20000 in
def mC83 : mCodeT := mB83_0
def mM83 : mRec := (yX8_needNow, cX8_needNow, 2, (some .int), [], [], mC83)
-- LaneEyes$Watch.needOf(IIII)I
set_option maxRecDepth 20000 in
def mB84_0 : mCodeT := [(0, .aload_n 0, []), (1, .getfield 12, [7, 0]), (4, .iload_n 1, []), (5, .iload_n 2, []), (6, .invokevirtual 86, [0, 50, 2, 3]), (9, .istore 5, []), (11, .aload_n 0, []), (12, .getfield 12, [7, 0]), (15, .getfield 90, [3, 13]), (18, .iconst 0, []), (19, .invokevirtual 94, [0, 64, 1, 5]), (22, .ifCond .ne 26, []), (25, .iconst 1, []), (26, .iload 5, []), (28, .iconst 3, []), (29, .idiv, []), (30, .iadd, []), (31, .aload_n 0, []), (32, .getfield 12, [7, 0]), (35, .getfield 100, [3, 3]), (38, .iload_n 1, []), (39, .iaload, []), (40, .iadd, []), (41, .iconst 1, []), (42, .bipush 30, []), (44, .invokestatic 103, [2, 174, 3]), (47, .ireturn, [])]
set_option maxRecDepth 20000 in
def mB84_48 : mCodeT := [(48, .aload_n 0, []), (49, .getfield 35, [7, 4]), (52, .iconst 0, []), (53, .aload_n 0, []), (54, .getfield 12, [7, 0]), (57, .getfield 107, [3, 2]), (60, .iload_n 1, []), (61, .iaload, []), (62, .iastore, []), (63, .aload_n 0, []), (64, .getfield 35, [7, 4]), (67, .iconst 1, []), (68, .aload_n 0, []), (69, .getfield 12, [7, 0]), (72, .getfield 100, [3, 3]), (75, .iload_n 1, []), (76, .iaload, []), (77, .iastore, []), (78, .aload_n 0, []), (79, .getfield 35, [7, 4]), (82, .iconst 2, []), (83, .iload 5, []), (85, .iastore, []), (86, .aload_n 0, []), (87, .getfield 35, [7, 4]), (90, .iconst 3, []), (91, .aload_n 0, []), (92, .iload_n 1, []), (93, .invokevirtual 110, [0, 82, 1, 7]), (96, .invokestatic 114, [1, 292, 1]), (99, .iload 4, []), (101, .iadd, []), (102, .iastore, []), (103, .aload_n 0, []), (104, .getfield 35, [7, 4]), (107, .iconst 4, []), (108, .aload_n 0, []), (109, .getfield 12, [7, 0]), (112, .getfield 118, [3, 8]), (115, .iconst 1, []), (116, .if_icmp .ge 7, []), (119, .iconst 0, []), (120, .goto 12, [])]
set_option maxRecDepth 20000 in
def mB84_123 : mCodeT := [(123, .iload_n 3, []), (124, .aload_n 0, []), (125, .getfield 12, [7, 0]), (128, .getfield 118, [3, 8]), (131, .idiv, [])]
set_option maxRecDepth 20000 in
def mB84_132 : mCodeT := [(132, .iastore, []), (133, .aload_n 0, []), (134, .getfield 12, [7, 0]), (137, .getfield 90, [3, 13]), (140, .iconst 0, []), (141, .aload_n 0, []), (142, .getfield 35, [7, 4]), (145, .invokevirtual 121, [0, 66, 2, 5]), (148, .iconst 1, []), (149, .bipush 30, []), (151, .invokestatic 103, [2, 174, 3]), (154, .ireturn, [])]
set_option maxRecDepth 20000 in
def mC84 : mCodeT := mB84_0 ++ (mB84_48 ++ (mB84_123 ++ (mB84_132)))
def mM84 : mRec := (yX8_needOf, cX8_needOf, 6, (some .int), [], [], mC84)
-- LaneEyes$Watch.weight(I)I
set_option maxRecDepth 20000 in
def mB85_0 : mCodeT := [(0, .aload_n 0, []), (1, .getfield 12, [7, 0]), (4, .getfield 90, [3, 13]), (7, .iconst 1, []), (8, .invokevirtual 94, [0, 64, 1, 5]), (11, .ifCond .ne 16, []), (14, .bipush 10, []), (16, .aload_n 0, []), (17, .getfield 12, [7, 0]), (20, .getfield 125, [3, 5]), (23, .iload_n 1, []), (24, .iaload, []), (25, .isub, []), (26, .ireturn, [])]
set_option maxRecDepth 20000 in
def mB85_27 : mCodeT := [(27, .aload_n 0, []), (28, .getfield 21, [7, 1]), (31, .getfield 73, [0, 0]), (34, .iload_n 1, []), (35, .iaload, []), (36, .istore_n 2, []), (37, .aload_n 0, []), (38, .getfield 35, [7, 4]), (41, .iconst 5, []), (42, .aload_n 0, []), (43, .getfield 12, [7, 0]), (46, .getfield 125, [3, 5]), (49, .iload_n 1, []), (50, .iaload, []), (51, .iastore, []), (52, .aload_n 0, []), (53, .getfield 35, [7, 4]), (56, .iconst 0, []), (57, .aload_n 0, []), (58, .getfield 12, [7, 0]), (61, .getfield 107, [3, 2]), (64, .iload_n 2, []), (65, .iaload, []), (66, .iastore, []), (67, .aload_n 0, []), (68, .getfield 35, [7, 4]), (71, .iconst 1, []), (72, .aload_n 0, []), (73, .getfield 12, [7, 0]), (76, .getfield 100, [3, 3]), (79, .iload_n 2, []), (80, .iaload, []), (81, .iastore, []), (82, .aload_n 0, []), (83, .getfield 35, [7, 4]), (86, .iconst 2, []), (87, .aload_n 0, []), (88, .getfield 12, [7, 0]), (91, .iload_n 2, []), (92, .aload_n 0, []), (93, .getfield 21, [7, 1]), (96, .getfield 76, [0, 1]), (99, .invokevirtual 86, [0, 50, 2, 3]), (102, .iastore, []), (103, .aload_n 0, []), (104, .getfield 35, [7, 4]), (107, .iconst 3, []), (108, .aload_n 0, []), (109, .iload_n 2, []), (110, .invokevirtual 110, [0, 82, 1, 7]), (113, .invokestatic 114, [1, 292, 1]), (116, .iastore, []), (117, .aload_n 0, []), (118, .getfield 12, [7, 0]), (121, .getfield 90, [3, 13]), (124, .iconst 1, []), (125, .aload_n 0, []), (126, .getfield 35, [7, 4]), (129, .invokevirtual 121, [0, 66, 2, 5]), (132, .iconst 0, []), (133, .bipush 99, []), (135, .invokestatic 103, [2, 174, 3]), (138, .ireturn, [])]
set_option maxRecDepth 20000 in
def mC85 : mCodeT := mB85_0 ++ (mB85_27)
def mM85 : mRec := (yX8_weight, cX8_weight, 3, (some .int), [], [], mC85)
-- LaneEyes$Watch.allWeights()I
set_option maxRecDepth 20000 in
def mB86_0 : mCodeT := [(0, .iconst 0, []), (1, .istore_n 1, []), (2, .iconst 0, []), (3, .istore_n 2, [])]
set_option maxRecDepth 20000 in
def mB86_4 : mCodeT := [(4, .iload_n 2, []), (5, .aload_n 0, []), (6, .getfield 12, [7, 0]), (9, .getfield 70, [3, 4]), (12, .if_icmp .ge 17, []), (15, .iload_n 1, []), (16, .aload_n 0, []), (17, .iload_n 2, []), (18, .invokevirtual 128, [0, 85, 1, 7]), (21, .iadd, []), (22, .istore_n 1, []), (23, .iinc 2 1, []), (26, .goto (-22), [])]
set_option maxRecDepth 20000 in
def mB86_29 : mCodeT := [(29, .iload_n 1, []), (30, .ireturn, [])]
set_option maxRecDepth 20000 in
def mC86 : mCodeT := mB86_0 ++ (mB86_4 ++ (mB86_29))
def mM86 : mRec := (yX8_allWeights, cX8_allWeights, 3, (some .int), [], [], mC86)
-- LaneEyes$Watch.saysFun(II)Z
set_option maxRecDepth 20000 in
def mB87_0 : mCodeT := [(0, .iconst 0, []), (1, .istore_n 3, [])]
set_option maxRecDepth 20000 in
def mB87_2 : mCodeT := [(2, .iload_n 3, []), (3, .iconst 4, []), (4, .if_icmp .ge 31, []), (7, .aload_n 0, []), (8, .getfield 35, [7, 4]), (11, .bipush 6, []), (13, .iload_n 3, []), (14, .iadd, []), (15, .aload_n 0, []), (16, .getfield 12, [7, 0]), (19, .getfield 131, [3, 11]), (22, .iconst 4, []), (23, .iload_n 2, []), (24, .imul, []), (25, .iload_n 3, []), (26, .iadd, []), (27, .iaload, []), (28, .iastore, []), (29, .iinc 3 1, []), (32, .goto (-30), [])]
set_option maxRecDepth 20000 in
def mB87_35 : mCodeT := [(35, .aload_n 0, []), (36, .getfield 12, [7, 0]), (39, .getfield 90, [3, 13]), (42, .iconst 2, []), (43, .iload_n 1, []), (44, .iadd, []), (45, .aload_n 0, []), (46, .getfield 35, [7, 4]), (49, .invokevirtual 121, [0, 66, 2, 5]), (52, .ifCond .eq 7, []), (55, .iconst 1, []), (56, .goto 4, [])]
set_option maxRecDepth 20000 in
def mB87_59 : mCodeT := [(59, .iconst 0, [])]
set_option maxRecDepth 20000 in
def mB87_60 : mCodeT := [(60, .ireturn, [])]
set_option maxRecDepth 20000 in
def mC87 : mCodeT := mB87_0 ++ (mB87_2 ++ (mB87_35 ++ (mB87_59 ++ (mB87_60))))
def mM87 : mRec := (yX8_saysFun, cX8_saysFun, 4, (some .boolean), [], [], mC87)
-- LaneEyes$Watch.wrongCases(IZ)I
set_option maxRecDepth 20000 in
def mB88_0 : mCodeT := [(0, .iconst 0, []), (1, .istore_n 3, []), (2, .iconst 0, []), (3, .istore 4, [])]
set_option maxRecDepth 20000 in
def mB88_5 : mCodeT := [(5, .iload 4, []), (7, .aload_n 0, []), (8, .getfield 12, [7, 0]), (11, .getfield 134, [3, 10]), (14, .if_icmp .ge 51, []), (17, .aload_n 0, []), (18, .getfield 12, [7, 0]), (21, .getfield 137, [3, 12]), (24, .iload 4, []), (26, .iushr, []), (27, .iconst 1, []), (28, .iand, []), (29, .ifCond .eq 7, []), (32, .iconst 1, []), (33, .goto 4, [])]
set_option maxRecDepth 20000 in
def mB88_36 : mCodeT := [(36, .iconst 0, [])]
set_option maxRecDepth 20000 in
def mB88_37 : mCodeT := [(37, .istore 5, []), (39, .iload 5, []), (41, .iload_n 2, []), (42, .if_icmp .ne 17, []), (45, .aload_n 0, []), (46, .iload_n 1, []), (47, .iload 4, []), (49, .invokevirtual 140, [0, 87, 2, 7]), (52, .iload_n 2, []), (53, .if_icmp .ne 6, []), (56, .iinc 3 1, [])]
set_option maxRecDepth 20000 in
def mB88_59 : mCodeT := [(59, .iinc 4 1, []), (62, .goto (-57), [])]
set_option maxRecDepth 20000 in
def mB88_65 : mCodeT := [(65, .iload_n 3, []), (66, .ireturn, [])]
set_option maxRecDepth 20000 in
def mC88 : mCodeT := mB88_0 ++ (mB88_5 ++ (mB88_36 ++ (mB88_37 ++ (mB88_59 ++ (mB88_65)))))
def mM88 : mRec := (yX8_wrongCases, cX8_wrongCases, 6, (some .int), [], [], mC88)
-- LaneEyes$Watch.bestGame()I
set_option maxRecDepth 20000 in
def mB89_0 : mCodeT := [(0, .iconst (-1), []), (1, .istore_n 1, []), (2, .iconst 0, []), (3, .istore_n 2, []), (4, .iconst 0, []), (5, .istore_n 3, [])]
set_option maxRecDepth 20000 in
def mB89_6 : mCodeT := [(6, .iload_n 3, []), (7, .aload_n 0, []), (8, .getfield 12, [7, 0]), (11, .getfield 144, [3, 9]), (14, .if_icmp .ge 42, []), (17, .iconst 3, []), (18, .aload_n 0, []), (19, .iload_n 3, []), (20, .iconst 1, []), (21, .invokevirtual 147, [0, 88, 2, 7]), (24, .imul, []), (25, .aload_n 0, []), (26, .iload_n 3, []), (27, .iconst 0, []), (28, .invokevirtual 147, [0, 88, 2, 7]), (31, .iadd, []), (32, .istore 4, []), (34, .iload_n 1, []), (35, .iconst (-1), []), (36, .if_icmp .eq 9, []), (39, .iload 4, []), (41, .iload_n 2, []), (42, .if_icmp .ge 8, [])]
set_option maxRecDepth 20000 in
def mB89_45 : mCodeT := [(45, .iload_n 3, []), (46, .istore_n 1, []), (47, .iload 4, []), (49, .istore_n 2, [])]
set_option maxRecDepth 20000 in
def mB89_50 : mCodeT := [(50, .iinc 3 1, []), (53, .goto (-47), [])]
set_option maxRecDepth 20000 in
def mB89_56 : mCodeT := [(56, .iload_n 1, []), (57, .ireturn, [])]
set_option maxRecDepth 20000 in
def mC89 : mCodeT := mB89_0 ++ (mB89_6 ++ (mB89_45 ++ (mB89_50 ++ (mB89_56))))
def mM89 : mRec := (yX8_bestGame, cX8_bestGame, 5, (some .int), [], [], mC89)
-- LaneEyes$Watch.takeRound()V
set_option maxRecDepth 20000 in
def mB90_0 : mCodeT := [(0, .aload_n 0, []), (1, .iconst (-1), []), (2, .invokevirtual 151, [0, 91, 1, 7]), (5, .return_, [])]
set_option maxRecDepth 20000 in
def mC90 : mCodeT := mB90_0
def mM90 : mRec := (yX8_takeRound, cX8_takeRound, 1, none, [], [], mC90)
-- LaneEyes$Watch.takeRoundBut(I)V
set_option maxRecDepth 20000 in
def mB91_0 : mCodeT := [(0, .aload_n 0, []), (1, .getfield 28, [7, 2]), (4, .invokevirtual 155, [0, 52, 0, 4]), (7, .iconst 0, []), (8, .istore_n 2, [])]
set_option maxRecDepth 20000 in
def mB91_9 : mCodeT := [(9, .iload_n 2, []), (10, .aload_n 0, []), (11, .getfield 12, [7, 0]), (14, .getfield 55, [3, 6]), (17, .if_icmp .ge 39, []), (20, .iload_n 2, []), (21, .iload_n 1, []), (22, .if_icmp .eq 28, []), (25, .aload_n 0, []), (26, .getfield 28, [7, 2]), (29, .aload_n 0, []), (30, .getfield 21, [7, 1]), (33, .getfield 61, [0, 2]), (36, .iload_n 2, []), (37, .iaload, []), (38, .aload_n 0, []), (39, .getfield 21, [7, 1]), (42, .getfield 58, [0, 3]), (45, .iload_n 2, []), (46, .iaload, []), (47, .invokevirtual 158, [0, 53, 2, 4])]
set_option maxRecDepth 20000 in
def mB91_50 : mCodeT := [(50, .iinc 2 1, []), (53, .goto (-44), [])]
set_option maxRecDepth 20000 in
def mB91_56 : mCodeT := [(56, .return_, [])]
set_option maxRecDepth 20000 in
def mC91 : mCodeT := mB91_0 ++ (mB91_9 ++ (mB91_50 ++ (mB91_56)))
def mM91 : mRec := (yX8_takeRoundBut, cX8_takeRoundBut, 3, none, [], [], mC91)
-- LaneEyes$Watch.gather(III)V
set_option maxRecDepth 20000 in
def mB92_0 : mCodeT := [(0, .aload_n 0, []), (1, .iconst 0, []), (2, .putfield 45, [7, 7]), (5, .lconst 0, []), (6, .lstore 4, []), (8, .iconst 0, []), (9, .istore 6, [])]
set_option maxRecDepth 20000 in
def mB92_11 : mCodeT := [(11, .iload 6, []), (13, .aload_n 0, []), (14, .getfield 12, [7, 0]), (17, .getfield 70, [3, 4]), (20, .if_icmp .ge 81, []), (23, .aload_n 0, []), (24, .getfield 21, [7, 1]), (27, .getfield 73, [0, 0]), (30, .iload 6, []), (32, .iaload, []), (33, .istore 7, []), (35, .lload 4, []), (37, .iload 7, []), (39, .lushr, []), (40, .lconst 1, []), (41, .land, []), (42, .lconst 0, []), (43, .lcmp, []), (44, .ifCond .ne 51, []), (47, .lload 4, []), (49, .lconst 1, []), (50, .iload 7, []), (52, .lshl, []), (53, .lor, []), (54, .lstore 4, []), (56, .aload_n 0, []), (57, .getfield 39, [7, 5]), (60, .aload_n 0, []), (61, .getfield 45, [7, 7]), (64, .iload 7, []), (66, .iastore, []), (67, .aload_n 0, []), (68, .getfield 42, [7, 6]), (71, .aload_n 0, []), (72, .getfield 45, [7, 7]), (75, .aload_n 0, []), (76, .iload 7, []), (78, .iload_n 1, []), (79, .iload_n 2, []), (80, .iload_n 3, []), (81, .invokevirtual 82, [0, 84, 4, 7]), (84, .iastore, []), (85, .aload_n 0, []), (86, .dup, []), (87, .getfield 45, [7, 7]), (90, .iconst 1, []), (91, .iadd, []), (92, .putfield 45, [7, 7])]
set_option maxRecDepth 20000 in
def mB92_95 : mCodeT := [(95, .iinc 6 1, []), (98, .goto (-87), [])]
set_option maxRecDepth 20000 in
def mB92_101 : mCodeT := [(101, .return_, [])]
set_option maxRecDepth 20000 in
def mC92 : mCodeT := mB92_0 ++ (mB92_11 ++ (mB92_95 ++ (mB92_101)))
def mM92 : mRec := (yX8_gather, cX8_gather, 8, none, [], [], mC92)
-- LaneEyes$Watch.worstOfRound()I
set_option maxRecDepth 20000 in
def mB93_0 : mCodeT := [(0, .iconst 0, []), (1, .istore_n 1, []), (2, .iconst 0, []), (3, .istore_n 2, [])]
set_option maxRecDepth 20000 in
def mB93_4 : mCodeT := [(4, .iload_n 2, []), (5, .aload_n 0, []), (6, .getfield 45, [7, 7]), (9, .if_icmp .ge 33, []), (12, .iload_n 1, []), (13, .aload_n 0, []), (14, .getfield 28, [7, 2]), (17, .aload_n 0, []), (18, .getfield 39, [7, 5]), (21, .iload_n 2, []), (22, .iaload, []), (23, .aload_n 0, []), (24, .getfield 42, [7, 6]), (27, .iload_n 2, []), (28, .iaload, []), (29, .invokevirtual 162, [0, 54, 2, 4]), (32, .invokestatic 165, [9010, 99999]), (35, .istore_n 1, []), (36, .iinc 2 1, []), (39, .goto (-35), [])]
set_option maxRecDepth 20000 in
def mB93_42 : mCodeT := [(42, .iload_n 1, []), (43, .ireturn, [])]
set_option maxRecDepth 20000 in
def mC93 : mCodeT := mB93_0 ++ (mB93_4 ++ (mB93_42))
def mM93 : mRec := (yX8_worstOfRound, cX8_worstOfRound, 3, (some .int), [], [], mC93)
-- LaneEyes$Watch.worstNow()I
set_option maxRecDepth 20000 in
def mB94_0 : mCodeT := [(0, .aload_n 0, []), (1, .aload_n 0, []), (2, .getfield 21, [7, 1]), (5, .getfield 76, [0, 1]), (8, .aload_n 0, []), (9, .getfield 21, [7, 1]), (12, .getfield 79, [0, 4]), (15, .iconst 0, []), (16, .invokevirtual 170, [0, 92, 3, 7]), (19, .aload_n 0, []), (20, .invokevirtual 174, [0, 90, 0, 7]), (23, .aload_n 0, []), (24, .invokevirtual 177, [0, 93, 0, 7]), (27, .ireturn, [])]
set_option maxRecDepth 20000 in
def mC94 : mCodeT := mB94_0
def mM94 : mRec := (yX8_worstNow, cX8_worstNow, 1, (some .int), [], [], mC94)
-- LaneEyes$Watch.worstCell()I
set_option maxRecDepth 20000 in
def mB95_0 : mCodeT := [(0, .aload_n 0, []), (1, .invokevirtual 181, [0, 94, 0, 7]), (4, .istore_n 1, []), (5, .iconst (-1), []), (6, .istore_n 2, []), (7, .iconst 0, []), (8, .istore_n 3, [])]
set_option maxRecDepth 20000 in
def mB95_9 : mCodeT := [(9, .iload_n 3, []), (10, .aload_n 0, []), (11, .getfield 45, [7, 7]), (14, .if_icmp .ge 54, []), (17, .aload_n 0, []), (18, .getfield 28, [7, 2]), (21, .aload_n 0, []), (22, .getfield 39, [7, 5]), (25, .iload_n 3, []), (26, .iaload, []), (27, .aload_n 0, []), (28, .getfield 42, [7, 6]), (31, .iload_n 3, []), (32, .iaload, []), (33, .invokevirtual 162, [0, 54, 2, 4]), (36, .iload_n 1, []), (37, .if_icmp .ne 25, []), (40, .iload_n 2, []), (41, .iconst (-1), []), (42, .if_icmp .eq 13, []), (45, .aload_n 0, []), (46, .getfield 39, [7, 5]), (49, .iload_n 3, []), (50, .iaload, []), (51, .iload_n 2, []), (52, .if_icmp .ge 10, [])]
set_option maxRecDepth 20000 in
def mB95_55 : mCodeT := [(55, .aload_n 0, []), (56, .getfield 39, [7, 5]), (59, .iload_n 3, []), (60, .iaload, []), (61, .istore_n 2, [])]
set_option maxRecDepth 20000 in
def mB95_62 : mCodeT := [(62, .iinc 3 1, []), (65, .goto (-56), [])]
set_option maxRecDepth 20000 in
def mB95_68 : mCodeT := [(68, .iload_n 2, []), (69, .ireturn, [])]
set_option maxRecDepth 20000 in
def mC95 : mCodeT := mB95_0 ++ (mB95_9 ++ (mB95_55 ++ (mB95_62 ++ (mB95_68))))
def mM95 : mRec := (yX8_worstCell, cX8_worstCell, 4, (some .int), [], [], mC95)
-- LaneEyes$Watch.worstOfCell(I)I
set_option maxRecDepth 20000 in
def mB96_0 : mCodeT := [(0, .aload_n 0, []), (1, .invokevirtual 174, [0, 90, 0, 7]), (4, .aload_n 0, []), (5, .getfield 28, [7, 2]), (8, .iload_n 1, []), (9, .aload_n 0, []), (10, .iload_n 1, []), (11, .invokevirtual 184, [0, 83, 1, 7]), (14, .invokevirtual 162, [0, 54, 2, 4]), (17, .ireturn, [])]
set_option maxRecDepth 20000 in
def mC96 : mCodeT := mB96_0
def mM96 : mRec := (yX8_worstOfCell, cX8_worstOfCell, 2, (some .int), [], [], mC96)
-- LaneEyes$Watch.worstWithout(I)I
set_option maxRecDepth 20000 in
def mB97_0 : mCodeT := [(0, .aload_n 0, []), (1, .aload_n 0, []), (2, .getfield 21, [7, 1]), (5, .getfield 76, [0, 1]), (8, .aload_n 0, []), (9, .getfield 21, [7, 1]), (12, .getfield 79, [0, 4]), (15, .iconst 0, []), (16, .invokevirtual 170, [0, 92, 3, 7]), (19, .aload_n 0, []), (20, .iload_n 1, []), (21, .invokevirtual 151, [0, 91, 1, 7]), (24, .aload_n 0, []), (25, .invokevirtual 177, [0, 93, 0, 7]), (28, .ireturn, [])]
set_option maxRecDepth 20000 in
def mC97 : mCodeT := mB97_0
def mM97 : mRec := (yX8_worstWithout, cX8_worstWithout, 2, (some .int), [], [], mC97)
-- LaneEyes$Watch.worstFrom(I)I
set_option maxRecDepth 20000 in
def mB98_0 : mCodeT := [(0, .aload_n 0, []), (1, .iload_n 1, []), (2, .aload_n 0, []), (3, .getfield 21, [7, 1]), (6, .getfield 79, [0, 4]), (9, .iconst 0, []), (10, .invokevirtual 170, [0, 92, 3, 7]), (13, .aload_n 0, []), (14, .invokevirtual 174, [0, 90, 0, 7]), (17, .aload_n 0, []), (18, .invokevirtual 177, [0, 93, 0, 7]), (21, .ireturn, [])]
set_option maxRecDepth 20000 in
def mC98 : mCodeT := mB98_0
def mM98 : mRec := (yX8_worstFrom, cX8_worstFrom, 2, (some .int), [], [], mC98)
-- LaneEyes$Watch.blindCells()J
set_option maxRecDepth 20000 in
def mB99_0 : mCodeT := [(0, .aload_n 0, []), (1, .invokevirtual 174, [0, 90, 0, 7]), (4, .lconst 0, []), (5, .lstore_n 1, []), (6, .iconst 0, []), (7, .istore_n 3, [])]
set_option maxRecDepth 20000 in
def mB99_8 : mCodeT := [(8, .iload_n 3, []), (9, .aload_n 0, []), (10, .getfield 12, [7, 0]), (13, .invokevirtual 187, [0, 45, 0, 3]), (16, .if_icmp .ge 33, []), (19, .aload_n 0, []), (20, .getfield 28, [7, 2]), (23, .iload_n 3, []), (24, .aload_n 0, []), (25, .iload_n 3, []), (26, .invokevirtual 184, [0, 83, 1, 7]), (29, .invokevirtual 162, [0, 54, 2, 4]), (32, .ldc 190, [2147483647]), (34, .if_icmp .ne 9, []), (37, .lload_n 1, []), (38, .lconst 1, []), (39, .iload_n 3, []), (40, .lshl, []), (41, .lor, []), (42, .lstore_n 1, [])]
set_option maxRecDepth 20000 in
def mB99_43 : mCodeT := [(43, .iinc 3 1, []), (46, .goto (-38), [])]
set_option maxRecDepth 20000 in
def mB99_49 : mCodeT := [(49, .lload_n 1, []), (50, .lreturn, [])]
set_option maxRecDepth 20000 in
def mC99 : mCodeT := mB99_0 ++ (mB99_8 ++ (mB99_43 ++ (mB99_49)))
def mM99 : mRec := (yX8_blindCells, cX8_blindCells, 4, (some .long), [], [], mC99)
-- LaneEyes$Watch.takeDelays(I[I)V
set_option maxRecDepth 20000 in
def mB100_0 : mCodeT := [(0, .aload_n 0, []), (1, .invokevirtual 174, [0, 90, 0, 7]), (4, .aload_n 0, []), (5, .getfield 28, [7, 2]), (8, .iload_n 1, []), (9, .aload_n 0, []), (10, .iload_n 1, []), (11, .aload_n 0, []), (12, .getfield 21, [7, 1]), (15, .getfield 76, [0, 1]), (18, .aload_n 0, []), (19, .getfield 21, [7, 1]), (22, .getfield 79, [0, 4]), (25, .iconst 0, []), (26, .invokevirtual 82, [0, 84, 4, 7]), (29, .aload_n 2, []), (30, .invokevirtual 191, [0, 57, 3, 4]), (33, .return_, [])]
set_option maxRecDepth 20000 in
def mC100 : mCodeT := mB100_0
def mM100 : mRec := (yX8_takeDelays, cX8_takeDelays, 3, none, [], [], mC100)
-- LaneEyes$Watch.delayFrom(II)I
set_option maxRecDepth 20000 in
def mB101_0 : mCodeT := [(0, .aload_n 0, []), (1, .iload_n 1, []), (2, .aload_n 0, []), (3, .getfield 49, [7, 8]), (6, .invokevirtual 195, [0, 100, 2, 7]), (9, .iload_n 2, []), (10, .ifCond .lt 12, []), (13, .iload_n 2, []), (14, .aload_n 0, []), (15, .getfield 49, [7, 8]), (18, .arraylength, []), (19, .if_icmp .lt 8, [])]
set_option maxRecDepth 20000 in
def mB101_22 : mCodeT := [(22, .ldc 190, [2147483647]), (24, .goto 9, [])]
set_option maxRecDepth 20000 in
def mB101_27 : mCodeT := [(27, .aload_n 0, []), (28, .getfield 49, [7, 8]), (31, .iload_n 2, []), (32, .iaload, [])]
set_option maxRecDepth 20000 in
def mB101_33 : mCodeT := [(33, .ireturn, [])]
set_option maxRecDepth 20000 in
def mC101 : mCodeT := mB101_0 ++ (mB101_22 ++ (mB101_27 ++ (mB101_33)))
def mM101 : mRec := (yX8_delayFrom, cX8_delayFrom, 3, (some .int), [], [], mC101)
-- LaneEyes$Watch.unseen(I)I
set_option maxRecDepth 20000 in
def mB102_0 : mCodeT := [(0, .aload_n 0, []), (1, .iload_n 1, []), (2, .aload_n 0, []), (3, .getfield 49, [7, 8]), (6, .invokevirtual 195, [0, 100, 2, 7]), (9, .aload_n 0, []), (10, .invokevirtual 199, [0, 80, 0, 7]), (13, .istore_n 2, []), (14, .iconst 0, []), (15, .istore_n 3, []), (16, .iconst 0, []), (17, .istore 4, [])]
set_option maxRecDepth 20000 in
def mB102_19 : mCodeT := [(19, .iload 4, []), (21, .iload_n 2, []), (22, .if_icmp .ge 39, []), (25, .iload 4, []), (27, .aload_n 0, []), (28, .getfield 49, [7, 8]), (31, .arraylength, []), (32, .if_icmp .ge 29, []), (35, .aload_n 0, []), (36, .getfield 49, [7, 8]), (39, .iload 4, []), (41, .iaload, []), (42, .aload_n 0, []), (43, .getfield 12, [7, 0]), (46, .getfield 202, [3, 7]), (49, .if_icmp .le 6, []), (52, .iinc 3 1, [])]
set_option maxRecDepth 20000 in
def mB102_55 : mCodeT := [(55, .iinc 4 1, []), (58, .goto (-39), [])]
set_option maxRecDepth 20000 in
def mB102_61 : mCodeT := [(61, .iload_n 3, []), (62, .ireturn, [])]
set_option maxRecDepth 20000 in
def mC102 : mCodeT := mB102_0 ++ (mB102_19 ++ (mB102_55 ++ (mB102_61)))
def mM102 : mRec := (yX8_unseen, cX8_unseen, 5, (some .int), [], [], mC102)
-- LaneEyes$Watch.lateWeights()I
set_option maxRecDepth 20000 in
def mB103_0 : mCodeT := [(0, .iconst 0, []), (1, .istore_n 1, []), (2, .iconst 0, []), (3, .istore_n 2, [])]
set_option maxRecDepth 20000 in
def mB103_4 : mCodeT := [(4, .iload_n 2, []), (5, .aload_n 0, []), (6, .getfield 12, [7, 0]), (9, .getfield 70, [3, 4]), (12, .if_icmp .ge 31, []), (15, .iload_n 1, []), (16, .aload_n 0, []), (17, .iload_n 2, []), (18, .invokevirtual 128, [0, 85, 1, 7]), (21, .aload_n 0, []), (22, .aload_n 0, []), (23, .getfield 21, [7, 1]), (26, .getfield 73, [0, 0]), (29, .iload_n 2, []), (30, .iaload, []), (31, .invokevirtual 205, [0, 102, 1, 7]), (34, .imul, []), (35, .iadd, []), (36, .istore_n 1, []), (37, .iinc 2 1, []), (40, .goto (-36), [])]
set_option maxRecDepth 20000 in
def mB103_43 : mCodeT := [(43, .iload_n 1, []), (44, .ireturn, [])]
set_option maxRecDepth 20000 in
def mC103 : mCodeT := mB103_0 ++ (mB103_4 ++ (mB103_43))
def mM103 : mRec := (yX8_lateWeights, cX8_lateWeights, 3, (some .int), [], [], mC103)
-- LaneEyes$Watch.bestOrder([I)I
set_option maxRecDepth 20000 in
def mB104_0 : mCodeT := [(0, .aload_n 0, []), (1, .aload_n 0, []), (2, .getfield 21, [7, 1]), (5, .getfield 76, [0, 1]), (8, .aload_n 0, []), (9, .getfield 21, [7, 1]), (12, .getfield 79, [0, 4]), (15, .iconst 0, []), (16, .invokevirtual 170, [0, 92, 3, 7]), (19, .iconst 0, []), (20, .istore_n 2, [])]
set_option maxRecDepth 20000 in
def mB104_21 : mCodeT := [(21, .iload_n 2, []), (22, .aload_n 0, []), (23, .getfield 12, [7, 0]), (26, .getfield 55, [3, 6]), (29, .if_icmp .ge 16, []), (32, .aload_n 0, []), (33, .getfield 52, [7, 9]), (36, .iload_n 2, []), (37, .iload_n 2, []), (38, .iastore, []), (39, .iinc 2 1, []), (42, .goto (-21), [])]
set_option maxRecDepth 20000 in
def mB104_45 : mCodeT := [(45, .aload_n 0, []), (46, .invokevirtual 208, [0, 105, 0, 7]), (49, .istore_n 2, []), (50, .aload_n 0, []), (51, .getfield 52, [7, 9]), (54, .iconst 0, []), (55, .aload_n 1, []), (56, .iconst 0, []), (57, .aload_n 0, []), (58, .getfield 12, [7, 0]), (61, .getfield 55, [3, 6]), (64, .invokestatic 211, [9001, 99999]), (67, .iconst 1, []), (68, .istore_n 3, [])]
set_option maxRecDepth 20000 in
def mB104_69 : mCodeT := [(69, .iload_n 3, []), (70, .sipush 720, []), (73, .if_icmp .ge 48, []), (76, .aload_n 0, []), (77, .invokevirtual 217, [0, 106, 0, 7]), (80, .ifCond .eq 41, []), (83, .aload_n 0, []), (84, .invokevirtual 208, [0, 105, 0, 7]), (87, .istore 4, []), (89, .iload 4, []), (91, .iload_n 2, []), (92, .if_icmp .ge 23, []), (95, .iload 4, []), (97, .istore_n 2, []), (98, .aload_n 0, []), (99, .getfield 52, [7, 9]), (102, .iconst 0, []), (103, .aload_n 1, []), (104, .iconst 0, []), (105, .aload_n 0, []), (106, .getfield 12, [7, 0]), (109, .getfield 55, [3, 6]), (112, .invokestatic 211, [9001, 99999])]
set_option maxRecDepth 20000 in
def mB104_115 : mCodeT := [(115, .iinc 3 1, []), (118, .goto (-49), [])]
set_option maxRecDepth 20000 in
def mB104_121 : mCodeT := [(121, .iload_n 2, []), (122, .ireturn, [])]
set_option maxRecDepth 20000 in
def mC104 : mCodeT := mB104_0 ++ (mB104_21 ++ (mB104_45 ++ (mB104_69 ++ (mB104_115 ++ (mB104_121)))))
def mM104 : mRec := (yX8_bestOrder, cX8_bestOrder, 5, (some .int), [], [], mC104)
-- LaneEyes$Watch.worstInOrder()I
set_option maxRecDepth 20000 in
def mB105_0 : mCodeT := [(0, .aload_n 0, []), (1, .getfield 28, [7, 2]), (4, .invokevirtual 155, [0, 52, 0, 4]), (7, .iconst 0, []), (8, .istore_n 1, [])]
set_option maxRecDepth 20000 in
def mB105_9 : mCodeT := [(9, .iload_n 1, []), (10, .aload_n 0, []), (11, .getfield 12, [7, 0]), (14, .getfield 55, [3, 6]), (17, .if_icmp .ge 44, []), (20, .aload_n 0, []), (21, .getfield 28, [7, 2]), (24, .aload_n 0, []), (25, .getfield 21, [7, 1]), (28, .getfield 61, [0, 2]), (31, .aload_n 0, []), (32, .getfield 52, [7, 9]), (35, .iload_n 1, []), (36, .iaload, []), (37, .iaload, []), (38, .aload_n 0, []), (39, .getfield 21, [7, 1]), (42, .getfield 58, [0, 3]), (45, .aload_n 0, []), (46, .getfield 52, [7, 9]), (49, .iload_n 1, []), (50, .iaload, []), (51, .iaload, []), (52, .invokevirtual 158, [0, 53, 2, 4]), (55, .iinc 1 1, []), (58, .goto (-49), [])]
set_option maxRecDepth 20000 in
def mB105_61 : mCodeT := [(61, .aload_n 0, []), (62, .invokevirtual 177, [0, 93, 0, 7]), (65, .ireturn, [])]
set_option maxRecDepth 20000 in
def mC105 : mCodeT := mB105_0 ++ (mB105_9 ++ (mB105_61))
def mM105 : mRec := (yX8_worstInOrder, cX8_worstInOrder, 2, (some .int), [], [], mC105)
-- LaneEyes$Watch.nextOrder()Z
set_option maxRecDepth 20000 in
def mB106_0 : mCodeT := [(0, .aload_n 0, []), (1, .getfield 12, [7, 0]), (4, .getfield 55, [3, 6]), (7, .iconst 1, []), (8, .isub, []), (9, .istore_n 1, []), (10, .iload_n 1, []), (11, .iconst 1, []), (12, .isub, []), (13, .istore_n 2, [])]
set_option maxRecDepth 20000 in
def mB106_14 : mCodeT := [(14, .iload_n 2, []), (15, .iconst 1, []), (16, .if_icmp .lt 26, []), (19, .aload_n 0, []), (20, .getfield 52, [7, 9]), (23, .iload_n 2, []), (24, .iaload, []), (25, .aload_n 0, []), (26, .getfield 52, [7, 9]), (29, .iload_n 2, []), (30, .iconst 1, []), (31, .iadd, []), (32, .iaload, []), (33, .if_icmp .le 9, []), (36, .iinc 2 (-1), []), (39, .goto (-25), [])]
set_option maxRecDepth 20000 in
def mB106_42 : mCodeT := [(42, .iload_n 2, []), (43, .iconst 1, []), (44, .if_icmp .ge 5, []), (47, .iconst 0, []), (48, .ireturn, [])]
set_option maxRecDepth 20000 in
def mB106_49 : mCodeT := [(49, .iload_n 1, []), (50, .istore_n 3, [])]
set_option maxRecDepth 20000 in
def mB106_51 : mCodeT := [(51, .iload_n 3, []), (52, .iload_n 2, []), (53, .if_icmp .le 24, []), (56, .aload_n 0, []), (57, .getfield 52, [7, 9]), (60, .iload_n 3, []), (61, .iaload, []), (62, .aload_n 0, []), (63, .getfield 52, [7, 9]), (66, .iload_n 2, []), (67, .iaload, []), (68, .if_icmp .ge 9, []), (71, .iinc 3 (-1), []), (74, .goto (-23), [])]
set_option maxRecDepth 20000 in
def mB106_77 : mCodeT := [(77, .aload_n 0, []), (78, .iload_n 2, []), (79, .iload_n 3, []), (80, .invokevirtual 221, [0, 107, 2, 7]), (83, .iload_n 2, []), (84, .iconst 1, []), (85, .iadd, []), (86, .istore 4, []), (88, .iload_n 1, []), (89, .istore 5, [])]
set_option maxRecDepth 20000 in
def mB106_91 : mCodeT := [(91, .iload 4, []), (93, .iload 5, []), (95, .if_icmp .ge 20, []), (98, .aload_n 0, []), (99, .iload 4, []), (101, .iload 5, []), (103, .invokevirtual 221, [0, 107, 2, 7]), (106, .iinc 4 1, []), (109, .iinc 5 (-1), []), (112, .goto (-21), [])]
set_option maxRecDepth 20000 in
def mB106_115 : mCodeT := [(115, .iconst 1, []), (116, .ireturn, [])]
set_option maxRecDepth 20000 in
def mC106 : mCodeT := mB106_0 ++ (mB106_14 ++ (mB106_42 ++ (mB106_49 ++ (mB106_51 ++ (mB106_77 ++ (mB106_91 ++ (mB106_115)))))))
def mM106 : mRec := (yX8_nextOrder, cX8_nextOrder, 6, (some .boolean), [], [], mC106)
-- LaneEyes$Watch.swapTried(II)V
set_option maxRecDepth 20000 in
def mB107_0 : mCodeT := [(0, .aload_n 0, []), (1, .getfield 52, [7, 9]), (4, .iload_n 1, []), (5, .iaload, []), (6, .istore_n 3, []), (7, .aload_n 0, []), (8, .getfield 52, [7, 9]), (11, .iload_n 1, []), (12, .aload_n 0, []), (13, .getfield 52, [7, 9]), (16, .iload_n 2, []), (17, .iaload, []), (18, .iastore, []), (19, .aload_n 0, []), (20, .getfield 52, [7, 9]), (23, .iload_n 2, []), (24, .iload_n 3, []), (25, .iastore, []), (26, .return_, [])]
set_option maxRecDepth 20000 in
def mC107 : mCodeT := mB107_0
def mM107 : mRec := (yX8_swapTried, cX8_swapTried, 4, none, [], [], mC107)
-- LaneEyes$Watch.bestLengths([I)I
set_option maxRecDepth 20000 in
def mB108_0 : mCodeT := [(0, .aload_n 0, []), (1, .aload_n 0, []), (2, .getfield 21, [7, 1]), (5, .getfield 76, [0, 1]), (8, .aload_n 0, []), (9, .getfield 21, [7, 1]), (12, .getfield 79, [0, 4]), (15, .iconst 0, []), (16, .invokevirtual 170, [0, 92, 3, 7]), (19, .ldc 190, [2147483647]), (21, .istore_n 2, []), (22, .iconst 0, []), (23, .istore_n 3, []), (24, .iconst 1, []), (25, .iconst 2, []), (26, .aload_n 0, []), (27, .getfield 12, [7, 0]), (30, .getfield 55, [3, 6]), (33, .iconst 5, []), (34, .invokestatic 224, [9011, 99999]), (37, .imul, []), (38, .ishl, []), (39, .istore 4, []), (41, .iconst 0, []), (42, .istore 5, [])]
set_option maxRecDepth 20000 in
def mB108_44 : mCodeT := [(44, .iload 5, []), (46, .iload 4, []), (48, .if_icmp .ge 80, []), (51, .aload_n 0, []), (52, .getfield 28, [7, 2]), (55, .invokevirtual 155, [0, 52, 0, 4]), (58, .iconst 0, []), (59, .istore 6, [])]
set_option maxRecDepth 20000 in
def mB108_61 : mCodeT := [(61, .iload 6, []), (63, .aload_n 0, []), (64, .getfield 12, [7, 0]), (67, .getfield 55, [3, 6]), (70, .if_icmp .ge 34, []), (73, .aload_n 0, []), (74, .getfield 28, [7, 2]), (77, .aload_n 0, []), (78, .getfield 21, [7, 1]), (81, .getfield 61, [0, 2]), (84, .iload 6, []), (86, .iaload, []), (87, .aload_n 0, []), (88, .iload 5, []), (90, .iload 6, []), (92, .invokevirtual 227, [0, 109, 2, 7]), (95, .invokevirtual 158, [0, 53, 2, 4]), (98, .iinc 6 1, []), (101, .goto (-40), [])]
set_option maxRecDepth 20000 in
def mB108_104 : mCodeT := [(104, .aload_n 0, []), (105, .invokevirtual 177, [0, 93, 0, 7]), (108, .istore 6, []), (110, .iload 6, []), (112, .iload_n 2, []), (113, .if_icmp .ge 9, []), (116, .iload 6, []), (118, .istore_n 2, []), (119, .iload 5, []), (121, .istore_n 3, [])]
set_option maxRecDepth 20000 in
def mB108_122 : mCodeT := [(122, .iinc 5 1, []), (125, .goto (-81), [])]
set_option maxRecDepth 20000 in
def mB108_128 : mCodeT := [(128, .iconst 0, []), (129, .istore 5, [])]
set_option maxRecDepth 20000 in
def mB108_131 : mCodeT := [(131, .iload 5, []), (133, .aload_n 0, []), (134, .getfield 12, [7, 0]), (137, .getfield 55, [3, 6]), (140, .if_icmp .ge 20, []), (143, .aload_n 1, []), (144, .iload 5, []), (146, .aload_n 0, []), (147, .iload_n 3, []), (148, .iload 5, []), (150, .invokevirtual 227, [0, 109, 2, 7]), (153, .iastore, []), (154, .iinc 5 1, []), (157, .goto (-26), [])]
set_option maxRecDepth 20000 in
def mB108_160 : mCodeT := [(160, .iload_n 2, []), (161, .ireturn, [])]
set_option maxRecDepth 20000 in
def mC108 : mCodeT := mB108_0 ++ (mB108_44 ++ (mB108_61 ++ (mB108_104 ++ (mB108_122 ++ (mB108_128 ++ (mB108_131 ++ (mB108_160)))))))
def mM108 : mRec := (yX8_bestLengths, cX8_bestLengths, 7, (some .int), [], [], mC108)
-- LaneEyes$Watch.lengthOf(II)I
set_option maxRecDepth 20000 in
def mB109_0 : mCodeT := [(0, .iconst 1, []), (1, .iload_n 1, []), (2, .iconst 2, []), (3, .aload_n 0, []), (4, .getfield 12, [7, 0]), (7, .getfield 55, [3, 6]), (10, .iconst 1, []), (11, .isub, []), (12, .iload_n 2, []), (13, .isub, []), (14, .imul, []), (15, .iushr, []), (16, .iconst 3, []), (17, .iand, []), (18, .iadd, []), (19, .ireturn, [])]
set_option maxRecDepth 20000 in
def mC109 : mCodeT := mB109_0
def mM109 : mRec := (yX8_lengthOf, cX8_lengthOf, 3, (some .int), [], [], mC109)
-- LaneEyes$Watch.bestChair()I
set_option maxRecDepth 20000 in
def mB110_0 : mCodeT := [(0, .iconst 0, []), (1, .istore_n 1, []), (2, .ldc 190, [2147483647]), (4, .istore_n 2, []), (5, .iconst 0, []), (6, .istore_n 3, [])]
set_option maxRecDepth 20000 in
def mB110_7 : mCodeT := [(7, .iload_n 3, []), (8, .aload_n 0, []), (9, .getfield 12, [7, 0]), (12, .invokevirtual 187, [0, 45, 0, 3]), (15, .if_icmp .ge 27, []), (18, .aload_n 0, []), (19, .iload_n 3, []), (20, .invokevirtual 230, [0, 98, 1, 7]), (23, .istore 4, []), (25, .iload 4, []), (27, .iload_n 2, []), (28, .if_icmp .ge 8, []), (31, .iload 4, []), (33, .istore_n 2, []), (34, .iload_n 3, []), (35, .istore_n 1, [])]
set_option maxRecDepth 20000 in
def mB110_36 : mCodeT := [(36, .iinc 3 1, []), (39, .goto (-32), [])]
set_option maxRecDepth 20000 in
def mB110_42 : mCodeT := [(42, .iload_n 1, []), (43, .ireturn, [])]
set_option maxRecDepth 20000 in
def mC110 : mCodeT := mB110_0 ++ (mB110_7 ++ (mB110_36 ++ (mB110_42)))
def mM110 : mRec := (yX8_bestChair, cX8_bestChair, 5, (some .int), [], [], mC110)
-- LaneEyes$Watch.longestAway(I)I
set_option maxRecDepth 20000 in
def mB111_0 : mCodeT := [(0, .aload_n 0, []), (1, .aload_n 0, []), (2, .getfield 21, [7, 1]), (5, .getfield 76, [0, 1]), (8, .aload_n 0, []), (9, .getfield 21, [7, 1]), (12, .getfield 79, [0, 4]), (15, .iconst 0, []), (16, .invokevirtual 170, [0, 92, 3, 7]), (19, .bipush 99, []), (21, .istore_n 2, [])]
set_option maxRecDepth 20000 in
def mB111_22 : mCodeT := [(22, .iload_n 2, []), (23, .ifCond .lt 90, []), (26, .aload_n 0, []), (27, .getfield 28, [7, 2]), (30, .invokevirtual 155, [0, 52, 0, 4]), (33, .iconst 0, []), (34, .istore_n 3, [])]
set_option maxRecDepth 20000 in
def mB111_35 : mCodeT := [(35, .iload_n 3, []), (36, .aload_n 0, []), (37, .getfield 12, [7, 0]), (40, .getfield 55, [3, 6]), (43, .if_icmp .ge 48, []), (46, .aload_n 0, []), (47, .getfield 28, [7, 2]), (50, .aload_n 0, []), (51, .getfield 21, [7, 1]), (54, .getfield 61, [0, 2]), (57, .iload_n 3, []), (58, .iaload, []), (59, .aload_n 0, []), (60, .getfield 21, [7, 1]), (63, .getfield 58, [0, 3]), (66, .iload_n 3, []), (67, .iaload, []), (68, .invokevirtual 158, [0, 53, 2, 4]), (71, .iload_n 3, []), (72, .iload_n 1, []), (73, .if_icmp .ne 12, []), (76, .aload_n 0, []), (77, .getfield 28, [7, 2]), (80, .iconst (-1), []), (81, .iload_n 2, []), (82, .invokevirtual 158, [0, 53, 2, 4])]
set_option maxRecDepth 20000 in
def mB111_85 : mCodeT := [(85, .iinc 3 1, []), (88, .goto (-53), [])]
set_option maxRecDepth 20000 in
def mB111_91 : mCodeT := [(91, .aload_n 0, []), (92, .invokevirtual 177, [0, 93, 0, 7]), (95, .aload_n 0, []), (96, .getfield 12, [7, 0]), (99, .getfield 202, [3, 7]), (102, .if_icmp .gt 5, []), (105, .iload_n 2, []), (106, .ireturn, [])]
set_option maxRecDepth 20000 in
def mB111_107 : mCodeT := [(107, .iinc 2 (-1), []), (110, .goto (-88), [])]
set_option maxRecDepth 20000 in
def mB111_113 : mCodeT := [(113, .iconst (-1), []), (114, .ireturn, [])]
set_option maxRecDepth 20000 in
def mC111 : mCodeT := mB111_0 ++ (mB111_22 ++ (mB111_35 ++ (mB111_85 ++ (mB111_91 ++ (mB111_107 ++ (mB111_113))))))
def mM111 : mRec := (yX8_longestAway, cX8_longestAway, 4, (some .int), [], [], mC111)
-- LaneEyes$Watch.lastMinute()I
set_option maxRecDepth 20000 in
def mB112_0 : mCodeT := [(0, .aload_n 0, []), (1, .invokevirtual 174, [0, 90, 0, 7]), (4, .aload_n 0, []), (5, .getfield 12, [7, 0]), (8, .getfield 90, [3, 13]), (11, .getfield 233, [5, 5]), (14, .ifCond .eq 17, []), (17, .iconst 1, []), (18, .aload_n 0, []), (19, .getfield 12, [7, 0]), (22, .getfield 118, [3, 8]), (25, .invokestatic 165, [9010, 99999]), (28, .goto 6, [])]
set_option maxRecDepth 20000 in
def mB112_31 : mCodeT := [(31, .sipush 1000, [])]
set_option maxRecDepth 20000 in
def mB112_34 : mCodeT := [(34, .istore_n 1, []), (35, .iconst 0, []), (36, .istore_n 2, [])]
set_option maxRecDepth 20000 in
def mB112_37 : mCodeT := [(37, .iload_n 2, []), (38, .sipush 999, []), (41, .if_icmp .gt 49, []), (44, .aload_n 0, []), (45, .aload_n 0, []), (46, .getfield 21, [7, 1]), (49, .getfield 76, [0, 1]), (52, .iload_n 2, []), (53, .iconst 0, []), (54, .invokevirtual 170, [0, 92, 3, 7]), (57, .aload_n 0, []), (58, .invokevirtual 177, [0, 93, 0, 7]), (61, .aload_n 0, []), (62, .getfield 12, [7, 0]), (65, .getfield 202, [3, 7]), (68, .if_icmp .le 15, []), (71, .iload_n 2, []), (72, .ifCond .ne 7, []), (75, .iconst (-1), []), (76, .goto 6, [])]
set_option maxRecDepth 20000 in
def mB112_79 : mCodeT := [(79, .iload_n 2, []), (80, .iconst 1, []), (81, .isub, [])]
set_option maxRecDepth 20000 in
def mB112_82 : mCodeT := [(82, .ireturn, [])]
set_option maxRecDepth 20000 in
def mB112_83 : mCodeT := [(83, .iload_n 2, []), (84, .iload_n 1, []), (85, .iadd, []), (86, .istore_n 2, []), (87, .goto (-50), [])]
set_option maxRecDepth 20000 in
def mB112_90 : mCodeT := [(90, .sipush 999, []), (93, .ireturn, [])]
set_option maxRecDepth 20000 in
def mC112 : mCodeT := mB112_0 ++ (mB112_31 ++ (mB112_34 ++ (mB112_37 ++ (mB112_79 ++ (mB112_82 ++ (mB112_83 ++ (mB112_90)))))))
def mM112 : mRec := (yX8_lastMinute, cX8_lastMinute, 3, (some .int), [], [], mC112)
-- LaneEyes$Watch.mostExtra()I
set_option maxRecDepth 20000 in
def mB113_0 : mCodeT := [(0, .aload_n 0, []), (1, .invokevirtual 174, [0, 90, 0, 7]), (4, .iconst 0, []), (5, .istore_n 1, [])]
set_option maxRecDepth 20000 in
def mB113_6 : mCodeT := [(6, .iload_n 1, []), (7, .bipush 40, []), (9, .if_icmp .gt 54, []), (12, .aload_n 0, []), (13, .aload_n 0, []), (14, .getfield 21, [7, 1]), (17, .getfield 76, [0, 1]), (20, .aload_n 0, []), (21, .getfield 21, [7, 1]), (24, .getfield 79, [0, 4]), (27, .iload_n 1, []), (28, .invokevirtual 170, [0, 92, 3, 7]), (31, .aload_n 0, []), (32, .invokevirtual 177, [0, 93, 0, 7]), (35, .aload_n 0, []), (36, .getfield 12, [7, 0]), (39, .getfield 202, [3, 7]), (42, .if_icmp .le 15, []), (45, .iload_n 1, []), (46, .ifCond .ne 7, []), (49, .iconst (-1), []), (50, .goto 6, [])]
set_option maxRecDepth 20000 in
def mB113_53 : mCodeT := [(53, .iload_n 1, []), (54, .iconst 1, []), (55, .isub, [])]
set_option maxRecDepth 20000 in
def mB113_56 : mCodeT := [(56, .ireturn, [])]
set_option maxRecDepth 20000 in
def mB113_57 : mCodeT := [(57, .iinc 1 1, []), (60, .goto (-54), [])]
set_option maxRecDepth 20000 in
def mB113_63 : mCodeT := [(63, .bipush 40, []), (65, .ireturn, [])]
set_option maxRecDepth 20000 in
def mC113 : mCodeT := mB113_0 ++ (mB113_6 ++ (mB113_53 ++ (mB113_56 ++ (mB113_57 ++ (mB113_63)))))
def mM113 : mRec := (yX8_mostExtra, cX8_mostExtra, 2, (some .int), [], [], mC113)
-- LaneEyes$Watch.worstOfHalves(I)I
set_option maxRecDepth 20000 in
def mB114_0 : mCodeT := [(0, .aload_n 0, []), (1, .aload_n 0, []), (2, .getfield 21, [7, 1]), (5, .getfield 76, [0, 1]), (8, .aload_n 0, []), (9, .getfield 21, [7, 1]), (12, .getfield 79, [0, 4]), (15, .iconst 0, []), (16, .invokevirtual 170, [0, 92, 3, 7]), (19, .aload_n 0, []), (20, .getfield 28, [7, 2]), (23, .invokevirtual 155, [0, 52, 0, 4]), (26, .aload_n 0, []), (27, .getfield 32, [7, 3]), (30, .invokevirtual 155, [0, 52, 0, 4]), (33, .iconst 0, []), (34, .istore_n 2, [])]
set_option maxRecDepth 20000 in
def mB114_35 : mCodeT := [(35, .iload_n 2, []), (36, .aload_n 0, []), (37, .getfield 12, [7, 0]), (40, .getfield 55, [3, 6]), (43, .if_icmp .ge 44, []), (46, .aload_n 0, []), (47, .aload_n 0, []), (48, .getfield 21, [7, 1]), (51, .getfield 61, [0, 2]), (54, .iload_n 2, []), (55, .iaload, []), (56, .iload_n 1, []), (57, .invokevirtual 237, [0, 115, 2, 7]), (60, .aload_n 0, []), (61, .getfield 21, [7, 1]), (64, .getfield 61, [0, 2]), (67, .iload_n 2, []), (68, .iaload, []), (69, .aload_n 0, []), (70, .getfield 21, [7, 1]), (73, .getfield 58, [0, 3]), (76, .iload_n 2, []), (77, .iaload, []), (78, .invokevirtual 158, [0, 53, 2, 4]), (81, .iinc 2 1, []), (84, .goto (-49), [])]
set_option maxRecDepth 20000 in
def mB114_87 : mCodeT := [(87, .iconst 0, []), (88, .istore_n 2, []), (89, .iconst 0, []), (90, .istore_n 3, [])]
set_option maxRecDepth 20000 in
def mB114_91 : mCodeT := [(91, .iload_n 3, []), (92, .aload_n 0, []), (93, .getfield 45, [7, 7]), (96, .if_icmp .ge 40, []), (99, .iload_n 2, []), (100, .aload_n 0, []), (101, .aload_n 0, []), (102, .getfield 39, [7, 5]), (105, .iload_n 3, []), (106, .iaload, []), (107, .iload_n 1, []), (108, .invokevirtual 237, [0, 115, 2, 7]), (111, .aload_n 0, []), (112, .getfield 39, [7, 5]), (115, .iload_n 3, []), (116, .iaload, []), (117, .aload_n 0, []), (118, .getfield 42, [7, 6]), (121, .iload_n 3, []), (122, .iaload, []), (123, .invokevirtual 162, [0, 54, 2, 4]), (126, .invokestatic 165, [9010, 99999]), (129, .istore_n 2, []), (130, .iinc 3 1, []), (133, .goto (-42), [])]
set_option maxRecDepth 20000 in
def mB114_136 : mCodeT := [(136, .iload_n 2, []), (137, .ireturn, [])]
set_option maxRecDepth 20000 in
def mC114 : mCodeT := mB114_0 ++ (mB114_35 ++ (mB114_87 ++ (mB114_91 ++ (mB114_136))))
def mM114 : mRec := (yX8_worstOfHalves, cX8_worstOfHalves, 4, (some .int), [], [], mC114)
-- LaneEyes$Watch.halfOf(II)LLaneEyes$Round;
set_option maxRecDepth 20000 in
def mB115_0 : mCodeT := [(0, .aload_n 0, []), (1, .getfield 12, [7, 0]), (4, .iload_n 1, []), (5, .invokevirtual 241, [0, 48, 1, 3]), (8, .iload_n 2, []), (9, .if_icmp .ge 10, []), (12, .aload_n 0, []), (13, .getfield 28, [7, 2]), (16, .goto 7, [])]
set_option maxRecDepth 20000 in
def mB115_19 : mCodeT := [(19, .aload_n 0, []), (20, .getfield 32, [7, 3])]
set_option maxRecDepth 20000 in
def mB115_23 : mCodeT := [(23, .areturn, [])]
set_option maxRecDepth 20000 in
def mC115 : mCodeT := mB115_0 ++ (mB115_19 ++ (mB115_23))
def mM115 : mRec := (yX8_halfOf, cX8_halfOf, 3, (some (.object "LaneEyes$Round")), [], [], mC115)
-- LaneEyes$Watch.bestHalves()I
set_option maxRecDepth 20000 in
def mB116_0 : mCodeT := [(0, .iconst (-1), []), (1, .istore_n 1, []), (2, .iconst 0, []), (3, .istore_n 2, []), (4, .iconst 1, []), (5, .istore_n 3, [])]
set_option maxRecDepth 20000 in
def mB116_6 : mCodeT := [(6, .iload_n 3, []), (7, .aload_n 0, []), (8, .getfield 12, [7, 0]), (11, .getfield 244, [3, 0]), (14, .if_icmp .ge 32, []), (17, .aload_n 0, []), (18, .iload_n 3, []), (19, .invokevirtual 247, [0, 114, 1, 7]), (22, .istore 4, []), (24, .iload_n 1, []), (25, .iconst (-1), []), (26, .if_icmp .eq 9, []), (29, .iload 4, []), (31, .iload_n 2, []), (32, .if_icmp .ge 8, [])]
set_option maxRecDepth 20000 in
def mB116_35 : mCodeT := [(35, .iload_n 3, []), (36, .istore_n 1, []), (37, .iload 4, []), (39, .istore_n 2, [])]
set_option maxRecDepth 20000 in
def mB116_40 : mCodeT := [(40, .iinc 3 1, []), (43, .goto (-37), [])]
set_option maxRecDepth 20000 in
def mB116_46 : mCodeT := [(46, .iload_n 1, []), (47, .ireturn, [])]
set_option maxRecDepth 20000 in
def mC116 : mCodeT := mB116_0 ++ (mB116_6 ++ (mB116_35 ++ (mB116_40 ++ (mB116_46))))
def mM116 : mRec := (yX8_bestHalves, cX8_bestHalves, 5, (some .int), [], [], mC116)
-- LaneEyes$Watch.worstOfBoth()I
set_option maxRecDepth 20000 in
def mB117_0 : mCodeT := [(0, .aload_n 0, []), (1, .invokevirtual 199, [0, 80, 0, 7]), (4, .istore_n 1, []), (5, .aload_n 0, []), (6, .aload_n 0, []), (7, .getfield 21, [7, 1]), (10, .getfield 76, [0, 1]), (13, .aload_n 0, []), (14, .getfield 21, [7, 1]), (17, .getfield 79, [0, 4]), (20, .iconst 0, []), (21, .invokevirtual 170, [0, 92, 3, 7]), (24, .iload_n 1, []), (25, .ifCond .ne 17, []), (28, .aload_n 0, []), (29, .getfield 45, [7, 7]), (32, .ifCond .ne 7, []), (35, .iconst 0, []), (36, .goto 5, [])]
set_option maxRecDepth 20000 in
def mB117_39 : mCodeT := [(39, .ldc 190, [2147483647])]
set_option maxRecDepth 20000 in
def mB117_41 : mCodeT := [(41, .ireturn, [])]
set_option maxRecDepth 20000 in
def mB117_42 : mCodeT := [(42, .iconst 0, []), (43, .istore_n 2, []), (44, .iconst 0, []), (45, .istore_n 3, [])]
set_option maxRecDepth 20000 in
def mB117_46 : mCodeT := [(46, .iload_n 3, []), (47, .aload_n 0, []), (48, .getfield 45, [7, 7]), (51, .if_icmp .ge 80, []), (54, .aload_n 0, []), (55, .aload_n 0, []), (56, .getfield 39, [7, 5]), (59, .iload_n 3, []), (60, .iaload, []), (61, .aload_n 0, []), (62, .getfield 49, [7, 8]), (65, .invokevirtual 195, [0, 100, 2, 7]), (68, .iconst 0, []), (69, .istore 4, [])]
set_option maxRecDepth 20000 in
def mB117_71 : mCodeT := [(71, .iload 4, []), (73, .iload_n 1, []), (74, .if_icmp .ge 51, []), (77, .iload 4, []), (79, .aload_n 0, []), (80, .getfield 49, [7, 8]), (83, .arraylength, []), (84, .if_icmp .ge 41, []), (87, .aload_n 0, []), (88, .getfield 49, [7, 8]), (91, .iload 4, []), (93, .iload_n 1, []), (94, .iconst 2, []), (95, .idiv, []), (96, .iadd, []), (97, .iload_n 1, []), (98, .irem, []), (99, .iaload, []), (100, .istore 5, []), (102, .iload_n 2, []), (103, .aload_n 0, []), (104, .getfield 49, [7, 8]), (107, .iload 4, []), (109, .iaload, []), (110, .iload 5, []), (112, .invokestatic 224, [9011, 99999]), (115, .invokestatic 165, [9010, 99999]), (118, .istore_n 2, []), (119, .iinc 4 1, []), (122, .goto (-51), [])]
set_option maxRecDepth 20000 in
def mB117_125 : mCodeT := [(125, .iinc 3 1, []), (128, .goto (-82), [])]
set_option maxRecDepth 20000 in
def mB117_131 : mCodeT := [(131, .iload_n 2, []), (132, .ireturn, [])]
set_option maxRecDepth 20000 in
def mC117 : mCodeT := mB117_0 ++ (mB117_39 ++ (mB117_41 ++ (mB117_42 ++ (mB117_46 ++ (mB117_71 ++ (mB117_125 ++ (mB117_131)))))))
def mM117 : mRec := (yX8_worstOfBoth, cX8_worstOfBoth, 6, (some .int), [], [], mC117)
-- LaneEyes$Week.<init>()V
set_option maxRecDepth 20000 in
def mB118_0 : mCodeT := [(0, .aload_n 0, []), (1, .invokespecial 3, [9002, 99999]), (4, .aload_n 0, []), (5, .iconst 0, []), (6, .putfield 9, [8, 0]), (9, .aload_n 0, []), (10, .iconst 0, []), (11, .putfield 15, [8, 1]), (14, .aload_n 0, []), (15, .iconst 0, []), (16, .putfield 18, [8, 2]), (19, .aload_n 0, []), (20, .iconst 0, []), (21, .putfield 21, [8, 3]), (24, .aload_n 0, []), (25, .bipush 12, []), (27, .bipush 108, []), (29, .multianewarray 24 2, [104]), (33, .putfield 26, [8, 4]), (36, .aload_n 0, []), (37, .bipush 12, []), (39, .newarray .int, [100]), (41, .putfield 29, [8, 5]), (44, .return_, [])]
set_option maxRecDepth 20000 in
def mC118 : mCodeT := mB118_0
def mM118 : mRec := (yX9_init, cX9_init, 1, none, [], [], mC118)
-- LaneEyes$Week.live(LLaneEyes$Watch;II)V
set_option maxRecDepth 20000 in
def mB119_0 : mCodeT := [(0, .aload_n 0, []), (1, .iconst 0, []), (2, .putfield 9, [8, 0]), (5, .aload_n 0, []), (6, .iconst 0, []), (7, .putfield 15, [8, 1]), (10, .aload_n 0, []), (11, .iconst 0, []), (12, .putfield 18, [8, 2]), (15, .aload_n 0, []), (16, .iload_n 2, []), (17, .putfield 21, [8, 3]), (20, .aload_n 1, []), (21, .invokevirtual 33, [0, 80, 0, 7]), (24, .istore 4, []), (26, .aload_n 1, []), (27, .getfield 39, [7, 0]), (30, .getfield 43, [3, 4]), (33, .istore 5, []), (35, .iconst 0, []), (36, .istore 6, []), (38, .iconst 0, []), (39, .istore 7, [])]
set_option maxRecDepth 20000 in
def mB119_41 : mCodeT := [(41, .iload 7, []), (43, .iload 5, []), (45, .if_icmp .ge 55, []), (48, .aload_n 0, []), (49, .getfield 29, [8, 5]), (52, .iload 7, []), (54, .aload_n 1, []), (55, .iload 7, []), (57, .invokevirtual 48, [0, 85, 1, 7]), (60, .iastore, []), (61, .iload 6, []), (63, .aload_n 0, []), (64, .getfield 29, [8, 5]), (67, .iload 7, []), (69, .iaload, []), (70, .iadd, []), (71, .istore 6, []), (73, .aload_n 1, []), (74, .aload_n 1, []), (75, .getfield 52, [7, 1]), (78, .getfield 56, [0, 0]), (81, .iload 7, []), (83, .iaload, []), (84, .aload_n 0, []), (85, .getfield 26, [8, 4]), (88, .iload 7, []), (90, .aaload, []), (91, .invokevirtual 61, [0, 100, 2, 7]), (94, .iinc 7 1, []), (97, .goto (-56), [])]
set_option maxRecDepth 20000 in
def mB119_100 : mCodeT := [(100, .iload 6, []), (102, .ifCond .ne 4, []), (105, .return_, [])]
set_option maxRecDepth 20000 in
def mB119_106 : mCodeT := [(106, .iconst 0, []), (107, .istore 7, [])]
set_option maxRecDepth 20000 in
def mB119_109 : mCodeT := [(109, .iload 7, []), (111, .iload_n 3, []), (112, .if_icmp .ge 58, []), (115, .aload_n 0, []), (116, .aload_n 0, []), (117, .iload 6, []), (119, .invokevirtual 65, [0, 120, 1, 8]), (122, .iload 5, []), (124, .invokevirtual 68, [0, 121, 2, 8]), (127, .istore 8, []), (129, .aload_n 0, []), (130, .iload 4, []), (132, .ifCond .ne 8, []), (135, .ldc 72, [2147483647]), (137, .goto 17, [])]
set_option maxRecDepth 20000 in
def mB119_140 : mCodeT := [(140, .aload_n 0, []), (141, .getfield 26, [8, 4]), (144, .iload 8, []), (146, .aaload, []), (147, .aload_n 0, []), (148, .iload 4, []), (150, .invokevirtual 65, [0, 120, 1, 8]), (153, .iaload, [])]
set_option maxRecDepth 20000 in
def mB119_154 : mCodeT := [(154, .aload_n 1, []), (155, .getfield 39, [7, 0]), (158, .getfield 73, [3, 7]), (161, .invokevirtual 76, [0, 122, 2, 8]), (164, .iinc 7 1, []), (167, .goto (-58), [])]
set_option maxRecDepth 20000 in
def mB119_170 : mCodeT := [(170, .return_, [])]
set_option maxRecDepth 20000 in
def mC119 : mCodeT := mB119_0 ++ (mB119_41 ++ (mB119_100 ++ (mB119_106 ++ (mB119_109 ++ (mB119_140 ++ (mB119_154 ++ (mB119_170)))))))
def mM119 : mRec := (yX9_live, cX9_live, 9, none, [], [], mC119)
-- LaneEyes$Week.draw(I)I
set_option maxRecDepth 20000 in
def mB120_0 : mCodeT := [(0, .aload_n 0, []), (1, .aload_n 0, []), (2, .getfield 21, [8, 3]), (5, .ldc 80, [1103515245]), (7, .imul, []), (8, .sipush 12345, []), (11, .iadd, []), (12, .putfield 21, [8, 3]), (15, .iload_n 1, []), (16, .iconst 1, []), (17, .if_icmp .ge 7, []), (20, .iconst 0, []), (21, .goto 16, [])]
set_option maxRecDepth 20000 in
def mB120_24 : mCodeT := [(24, .aload_n 0, []), (25, .getfield 21, [8, 3]), (28, .bipush 16, []), (30, .iushr, []), (31, .sipush 32767, []), (34, .iand, []), (35, .iload_n 1, []), (36, .irem, [])]
set_option maxRecDepth 20000 in
def mB120_37 : mCodeT := [(37, .ireturn, [])]
set_option maxRecDepth 20000 in
def mC120 : mCodeT := mB120_0 ++ (mB120_24 ++ (mB120_37))
def mM120 : mRec := (yX9_draw, cX9_draw, 2, (some .int), [], [], mC120)
-- LaneEyes$Week.whoIs(II)I
set_option maxRecDepth 20000 in
def mB121_0 : mCodeT := [(0, .iload_n 1, []), (1, .istore_n 3, []), (2, .iconst 0, []), (3, .istore 4, [])]
set_option maxRecDepth 20000 in
def mB121_5 : mCodeT := [(5, .iload 4, []), (7, .iload_n 2, []), (8, .if_icmp .ge 33, []), (11, .iload_n 3, []), (12, .aload_n 0, []), (13, .getfield 29, [8, 5]), (16, .iload 4, []), (18, .iaload, []), (19, .if_icmp .ge 6, []), (22, .iload 4, []), (24, .ireturn, [])]
set_option maxRecDepth 20000 in
def mB121_25 : mCodeT := [(25, .iload_n 3, []), (26, .aload_n 0, []), (27, .getfield 29, [8, 5]), (30, .iload 4, []), (32, .iaload, []), (33, .isub, []), (34, .istore_n 3, []), (35, .iinc 4 1, []), (38, .goto (-33), [])]
set_option maxRecDepth 20000 in
def mB121_41 : mCodeT := [(41, .iconst 0, []), (42, .ireturn, [])]
set_option maxRecDepth 20000 in
def mC121 : mCodeT := mB121_0 ++ (mB121_5 ++ (mB121_25 ++ (mB121_41)))
def mM121 : mRec := (yX9_whoIs, cX9_whoIs, 5, (some .int), [], [], mC121)
-- LaneEyes$Week.note(II)V
set_option maxRecDepth 20000 in
def mB122_0 : mCodeT := [(0, .iload_n 1, []), (1, .iload_n 2, []), (2, .if_icmp .le 13, []), (5, .aload_n 0, []), (6, .dup, []), (7, .getfield 15, [8, 1]), (10, .iconst 1, []), (11, .iadd, []), (12, .putfield 15, [8, 1])]
set_option maxRecDepth 20000 in
def mB122_15 : mCodeT := [(15, .iload_n 1, []), (16, .iload_n 2, []), (17, .invokestatic 81, [9011, 99999]), (20, .istore_n 3, []), (21, .aload_n 0, []), (22, .dup, []), (23, .getfield 9, [8, 0]), (26, .iload_n 3, []), (27, .iadd, []), (28, .putfield 9, [8, 0]), (31, .aload_n 0, []), (32, .aload_n 0, []), (33, .getfield 18, [8, 2]), (36, .iload_n 3, []), (37, .invokestatic 86, [9010, 99999]), (40, .putfield 18, [8, 2]), (43, .return_, [])]
set_option maxRecDepth 20000 in
def mC122 : mCodeT := mB122_0 ++ (mB122_15)
def mM122 : mRec := (yX9_note, cX9_note, 4, none, [], [], mC122)
-- LaneEyes$Word.isSpelt([BII)Z
set_option maxRecDepth 20000 in
def mB123_0 : mCodeT := [(0, .aload_n 0, []), (1, .getfield 100, [900, 3]), (4, .invokevirtual 111, [5, 294, 0, 1]), (7, .iload_n 3, []), (8, .iload_n 2, []), (9, .isub, []), (10, .if_icmp .ne 13, []), (13, .iload_n 2, []), (14, .ifCond .lt 9, []), (17, .iload_n 3, []), (18, .aload_n 1, []), (19, .arraylength, []), (20, .if_icmp .le 5, [])]
set_option maxRecDepth 20000 in
def mB123_23 : mCodeT := [(23, .iconst 0, []), (24, .ireturn, [])]
set_option maxRecDepth 20000 in
def mB123_25 : mCodeT := [(25, .iconst 0, []), (26, .istore 4, [])]
set_option maxRecDepth 20000 in
def mB123_28 : mCodeT := [(28, .iload 4, []), (30, .aload_n 0, []), (31, .getfield 100, [900, 3]), (34, .invokevirtual 111, [5, 294, 0, 1]), (37, .if_icmp .ge 29, []), (40, .aload_n 1, []), (41, .iload_n 2, []), (42, .iload 4, []), (44, .iadd, []), (45, .baload, []), (46, .aload_n 0, []), (47, .getfield 100, [900, 3]), (50, .iload 4, []), (52, .invokevirtual 117, [5, 295, 1, 1]), (55, .if_icmp .eq 5, []), (58, .iconst 0, []), (59, .ireturn, [])]
set_option maxRecDepth 20000 in
def mB123_60 : mCodeT := [(60, .iinc 4 1, []), (63, .goto (-35), [])]
set_option maxRecDepth 20000 in
def mB123_66 : mCodeT := [(66, .iconst 1, []), (67, .ireturn, [])]
set_option maxRecDepth 20000 in
def mC123 : mCodeT := mB123_0 ++ (mB123_23 ++ (mB123_25 ++ (mB123_28 ++ (mB123_60 ++ (mB123_66)))))
def mM123 : mRec := (yX10_isSpelt, cX10_isSpelt, 5, (some .boolean), [], [], mC123)
-- LaneEyes.<init>()V
set_option maxRecDepth 20000 in
def mB124_0 : mCodeT := [(0, .aload_n 0, []), (1, .invokespecial 3, [9002, 99999]), (4, .aload_n 0, []), (5, .sipush 700, []), (8, .newarray .byte, [101]), (10, .putfield 9, [9, 0]), (13, .aload_n 0, []), (14, .iconst 0, []), (15, .putfield 13, [9, 1]), (18, .aload_n 0, []), (19, .iconst (-1), []), (20, .putfield 17, [9, 2]), (23, .aload_n 0, []), (24, .iconst 0, []), (25, .putfield 20, [9, 3]), (28, .aload_n 0, []), (29, .iconst 0, []), (30, .putfield 23, [9, 4]), (33, .aload_n 0, []), (34, .iconst 0, []), (35, .putfield 26, [9, 5]), (38, .aload_n 0, []), (39, .new 29, [2, 11]), (42, .dup, []), (43, .invokespecial 31, [4, 15, 0]), (46, .putfield 32, [9, 6]), (49, .aload_n 0, []), (50, .new 36, [7, 10]), (53, .dup, []), (54, .invokespecial 38, [4, 79, 0]), (57, .putfield 39, [9, 7]), (60, .aload_n 0, []), (61, .aload_n 0, []), (62, .getfield 39, [9, 7]), (65, .getfield 43, [7, 0]), (68, .putfield 47, [9, 8]), (71, .aload_n 0, []), (72, .aload_n 0, []), (73, .getfield 39, [9, 7]), (76, .getfield 48, [7, 1]), (79, .putfield 52, [9, 9]), (82, .aload_n 0, []), (83, .new 53, [0, 12]), (86, .dup, []), (87, .invokespecial 55, [4, 0, 0]), (90, .putfield 56, [9, 10]), (93, .aload_n 0, []), (94, .iconst 0, []), (95, .putfield 59, [9, 11]), (98, .aload_n 0, []), (99, .new 63, [8, 6]), (102, .dup, []), (103, .invokespecial 65, [4, 118, 0]), (106, .putfield 66, [9, 12]), (109, .aload_n 0, []), (110, .new 70, [1, 3]), (113, .dup, []), (114, .invokespecial 72, [4, 9, 0]), (117, .putfield 73, [9, 13]), (120, .aload_n 0, []), (121, .bipush 12, []), (123, .newarray .int, [100]), (125, .putfield 77, [9, 14]), (128, .aload_n 0, []), (129, .iconst 0, []), (130, .putfield 81, [9, 15]), (133, .return_, [])]
set_option maxRecDepth 20000 in
def mC124 : mCodeT := mB124_0
def mM124 : mRec := (yX11_init, cX11_init, 1, none, [], [], mC124)
-- LaneEyes.feed(IIIII)I
set_option maxRecDepth 20000 in
def mB125_0 : mCodeT := [(0, .aload_n 0, []), (1, .getfield 13, [9, 1]), (4, .bipush 20, []), (6, .iadd, []), (7, .sipush 700, []), (10, .if_icmp .le 5, []), (13, .iconst (-1), []), (14, .ireturn, [])]
set_option maxRecDepth 20000 in
def mB125_15 : mCodeT := [(15, .aload_n 0, []), (16, .iload_n 1, []), (17, .invokevirtual 84, [0, 126, 1, 9]), (20, .aload_n 0, []), (21, .iload_n 2, []), (22, .invokevirtual 84, [0, 126, 1, 9]), (25, .aload_n 0, []), (26, .iload_n 3, []), (27, .invokevirtual 84, [0, 126, 1, 9]), (30, .aload_n 0, []), (31, .iload 4, []), (33, .invokevirtual 84, [0, 126, 1, 9]), (36, .aload_n 0, []), (37, .iload 5, []), (39, .invokevirtual 84, [0, 126, 1, 9]), (42, .aload_n 0, []), (43, .getfield 13, [9, 1]), (46, .ireturn, [])]
set_option maxRecDepth 20000 in
def mC125 : mCodeT := mB125_0 ++ (mB125_15)
def mM125 : mRec := (yX11_feed, cX11_feed, 6, (some .int), [], [], mC125)
-- LaneEyes.putBytes(I)V
set_option maxRecDepth 20000 in
def mB126_0 : mCodeT := [(0, .bipush 24, []), (2, .istore_n 2, [])]
set_option maxRecDepth 20000 in
def mB126_3 : mCodeT := [(3, .iload_n 2, []), (4, .ifCond .lt 44, []), (7, .aload_n 0, []), (8, .getfield 13, [9, 1]), (11, .aload_n 0, []), (12, .getfield 9, [9, 0]), (15, .arraylength, []), (16, .if_icmp .ge 32, []), (19, .aload_n 0, []), (20, .getfield 9, [9, 0]), (23, .aload_n 0, []), (24, .getfield 13, [9, 1]), (27, .iload_n 1, []), (28, .iload_n 2, []), (29, .iushr, []), (30, .i2b, []), (31, .bastore, []), (32, .aload_n 0, []), (33, .dup, []), (34, .getfield 13, [9, 1]), (37, .iconst 1, []), (38, .iadd, []), (39, .putfield 13, [9, 1]), (42, .iinc 2 (-8), []), (45, .goto (-42), [])]
set_option maxRecDepth 20000 in
def mB126_48 : mCodeT := [(48, .return_, [])]
set_option maxRecDepth 20000 in
def mC126 : mCodeT := mB126_0 ++ (mB126_3 ++ (mB126_48))
def mM126 : mRec := (yX11_putBytes, cX11_putBytes, 3, none, [], [], mC126)
-- LaneEyes.lanes(I)I
set_option maxRecDepth 20000 in
def mB127_0 : mCodeT := [(0, .iload_n 1, []), (1, .ifCond .lt 11, []), (4, .iload_n 1, []), (5, .aload_n 0, []), (6, .getfield 13, [9, 1]), (9, .if_icmp .le 13, [])]
set_option maxRecDepth 20000 in
def mB127_12 : mCodeT := [(12, .new 88, [777, 0, 92, 90, 0])]
set_option maxRecDepth 20000 in
def mB127_22 : mCodeT := [(22, .aload_n 0, []), (23, .iconst 0, []), (24, .putfield 13, [9, 1]), (27, .aload_n 0, []), (28, .getfield 32, [9, 6]), (31, .aload_n 0, []), (32, .getfield 9, [9, 0]), (35, .iload_n 1, []), (36, .invokevirtual 95, [0, 16, 2, 2]), (39, .ifCond .ne 32, []), (42, .aload_n 0, []), (43, .dup, []), (44, .getfield 20, [9, 3]), (47, .iconst 1, []), (48, .iadd, []), (49, .putfield 20, [9, 3]), (52, .aload_n 0, []), (53, .aload_n 0, []), (54, .getfield 32, [9, 6]), (57, .getfield 99, [2, 3]), (60, .putfield 17, [9, 2]), (63, .aload_n 0, []), (64, .getfield 32, [9, 6]), (67, .getfield 102, [2, 2]), (70, .ireturn, [])]
set_option maxRecDepth 20000 in
def mB127_71 : mCodeT := [(71, .aload_n 0, []), (72, .iconst (-1), []), (73, .putfield 17, [9, 2]), (76, .aload_n 0, []), (77, .getfield 47, [9, 8]), (80, .aload_n 0, []), (81, .getfield 32, [9, 6]), (84, .getfield 105, [2, 0]), (87, .invokevirtual 106, [0, 44, 1, 3]), (90, .aload_n 0, []), (91, .getfield 52, [9, 9]), (94, .aload_n 0, []), (95, .getfield 32, [9, 6]), (98, .getfield 112, [2, 1]), (101, .invokevirtual 113, [0, 2, 1, 0]), (104, .aload_n 0, []), (105, .iconst 0, []), (106, .putfield 81, [9, 15]), (109, .aload_n 0, []), (110, .iconst 0, []), (111, .putfield 59, [9, 11]), (114, .iconst 0, []), (115, .ireturn, [])]
set_option maxRecDepth 20000 in
def mC127 : mCodeT := mB127_0 ++ (mB127_12 ++ (mB127_22 ++ (mB127_71)))
def mM127 : mRec := (yX11_lanes, cX11_lanes, 2, (some .int), [], [], mC127)
-- LaneEyes.fault()I
set_option maxRecDepth 20000 in
def mB128_0 : mCodeT := [(0, .aload_n 0, []), (1, .getfield 17, [9, 2]), (4, .ireturn, [])]
set_option maxRecDepth 20000 in
def mC128 : mCodeT := mB128_0
def mM128 : mRec := (yX11_fault, cX11_fault, 1, (some .int), [], [], mC128)
-- LaneEyes.count(I)I
set_option maxRecDepth 20000 in
def mB129_0 : mCodeT := [(0, .aload_n 0, []), (1, .iload_n 1, []), (2, .bipush 18, []), (4, .invokevirtual 116, [0, 165, 2, 9]), (7, .iload_n 1, []), (8, .tableswitch 220 0 17 #[88, 96, 104, 112, 120, 128, 136, 144, 152, 160, 168, 176, 184, 192, 200, 205, 210, 215], [])]
set_option maxRecDepth 20000 in
def mB129_96 : mCodeT := [(96, .aload_n 0, []), (97, .getfield 47, [9, 8]), (100, .getfield 120, [3, 0]), (103, .ireturn, [])]
set_option maxRecDepth 20000 in
def mB129_104 : mCodeT := [(104, .aload_n 0, []), (105, .getfield 47, [9, 8]), (108, .getfield 123, [3, 1]), (111, .ireturn, [])]
set_option maxRecDepth 20000 in
def mB129_112 : mCodeT := [(112, .aload_n 0, []), (113, .getfield 47, [9, 8]), (116, .getfield 126, [3, 4]), (119, .ireturn, [])]
set_option maxRecDepth 20000 in
def mB129_120 : mCodeT := [(120, .aload_n 0, []), (121, .getfield 47, [9, 8]), (124, .getfield 129, [3, 6]), (127, .ireturn, [])]
set_option maxRecDepth 20000 in
def mB129_128 : mCodeT := [(128, .aload_n 0, []), (129, .getfield 52, [9, 9]), (132, .getfield 132, [0, 1]), (135, .ireturn, [])]
set_option maxRecDepth 20000 in
def mB129_136 : mCodeT := [(136, .aload_n 0, []), (137, .getfield 47, [9, 8]), (140, .getfield 135, [3, 7]), (143, .ireturn, [])]
set_option maxRecDepth 20000 in
def mB129_144 : mCodeT := [(144, .aload_n 0, []), (145, .getfield 47, [9, 8]), (148, .getfield 138, [3, 8]), (151, .ireturn, [])]
set_option maxRecDepth 20000 in
def mB129_152 : mCodeT := [(152, .aload_n 0, []), (153, .getfield 52, [9, 9]), (156, .getfield 141, [0, 4]), (159, .ireturn, [])]
set_option maxRecDepth 20000 in
def mB129_160 : mCodeT := [(160, .aload_n 0, []), (161, .getfield 47, [9, 8]), (164, .getfield 144, [3, 9]), (167, .ireturn, [])]
set_option maxRecDepth 20000 in
def mB129_168 : mCodeT := [(168, .aload_n 0, []), (169, .getfield 47, [9, 8]), (172, .getfield 147, [3, 10]), (175, .ireturn, [])]
set_option maxRecDepth 20000 in
def mB129_176 : mCodeT := [(176, .aload_n 0, []), (177, .getfield 39, [9, 7]), (180, .invokevirtual 150, [0, 80, 0, 7]), (183, .ireturn, [])]
set_option maxRecDepth 20000 in
def mB129_184 : mCodeT := [(184, .aload_n 0, []), (185, .getfield 52, [9, 9]), (188, .getfield 154, [0, 5]), (191, .ireturn, [])]
set_option maxRecDepth 20000 in
def mB129_192 : mCodeT := [(192, .aload_n 0, []), (193, .getfield 52, [9, 9]), (196, .getfield 157, [0, 7]), (199, .ireturn, [])]
set_option maxRecDepth 20000 in
def mB129_200 : mCodeT := [(200, .aload_n 0, []), (201, .getfield 52, [9, 9]), (204, .getfield 160, [0, 9]), (207, .ireturn, [])]
set_option maxRecDepth 20000 in
def mB129_208 : mCodeT := [(208, .aload_n 0, []), (209, .getfield 13, [9, 1]), (212, .ireturn, [])]
set_option maxRecDepth 20000 in
def mB129_213 : mCodeT := [(213, .aload_n 0, []), (214, .getfield 20, [9, 3]), (217, .ireturn, [])]
set_option maxRecDepth 20000 in
def mB129_218 : mCodeT := [(218, .aload_n 0, []), (219, .getfield 23, [9, 4]), (222, .ireturn, [])]
set_option maxRecDepth 20000 in
def mB129_223 : mCodeT := [(223, .aload_n 0, []), (224, .getfield 26, [9, 5]), (227, .ireturn, [])]
set_option maxRecDepth 20000 in
def mB129_228 : mCodeT := [(228, .aload_n 0, []), (229, .getfield 39, [9, 7]), (232, .invokevirtual 163, [0, 81, 0, 7]), (235, .ireturn, [])]
set_option maxRecDepth 20000 in
def mC129 : mCodeT := mB129_0 ++ (mB129_96 ++ (mB129_104 ++ (mB129_112 ++ (mB129_120 ++ (mB129_128 ++ (mB129_136 ++ (mB129_144 ++ (mB129_152 ++ (mB129_160 ++ (mB129_168 ++ (mB129_176 ++ (mB129_184 ++ (mB129_192 ++ (mB129_200 ++ (mB129_208 ++ (mB129_213 ++ (mB129_218 ++ (mB129_223 ++ (mB129_228)))))))))))))))))))
def mM129 : mRec := (yX11_count, cX11_count, 2, (some .int), [], [], mC129)
-- LaneEyes.cell(II)I
set_option maxRecDepth 20000 in
def mB130_0 : mCodeT := [(0, .aload_n 0, []), (1, .iload_n 1, []), (2, .invokevirtual 166, [0, 166, 1, 9]), (5, .aload_n 0, []), (6, .iload_n 2, []), (7, .bipush 6, []), (9, .invokevirtual 116, [0, 165, 2, 9]), (12, .iload_n 2, []), (13, .tableswitch 105 0 5 #[39, 49, 59, 75, 84, 93], [])]
set_option maxRecDepth 20000 in
def mB130_52 : mCodeT := [(52, .aload_n 0, []), (53, .getfield 47, [9, 8]), (56, .getfield 169, [3, 2]), (59, .iload_n 1, []), (60, .iaload, []), (61, .ireturn, [])]
set_option maxRecDepth 20000 in
def mB130_62 : mCodeT := [(62, .aload_n 0, []), (63, .getfield 47, [9, 8]), (66, .getfield 172, [3, 3]), (69, .iload_n 1, []), (70, .iaload, []), (71, .ireturn, [])]
set_option maxRecDepth 20000 in
def mB130_72 : mCodeT := [(72, .aload_n 0, []), (73, .getfield 47, [9, 8]), (76, .iload_n 1, []), (77, .aload_n 0, []), (78, .getfield 52, [9, 9]), (81, .getfield 132, [0, 1]), (84, .invokevirtual 175, [0, 50, 2, 3]), (87, .ireturn, [])]
set_option maxRecDepth 20000 in
def mB130_88 : mCodeT := [(88, .aload_n 0, []), (89, .getfield 39, [9, 7]), (92, .iload_n 1, []), (93, .invokevirtual 179, [0, 82, 1, 7]), (96, .ireturn, [])]
set_option maxRecDepth 20000 in
def mB130_97 : mCodeT := [(97, .aload_n 0, []), (98, .getfield 39, [9, 7]), (101, .iload_n 1, []), (102, .invokevirtual 183, [0, 83, 1, 7]), (105, .ireturn, [])]
set_option maxRecDepth 20000 in
def mB130_106 : mCodeT := [(106, .aload_n 0, []), (107, .getfield 39, [9, 7]), (110, .iload_n 1, []), (111, .invokevirtual 186, [0, 96, 1, 7]), (114, .invokestatic 189, [1, 170, 1]), (117, .ireturn, [])]
set_option maxRecDepth 20000 in
def mB130_118 : mCodeT := [(118, .aload_n 0, []), (119, .getfield 39, [9, 7]), (122, .iload_n 1, []), (123, .invokevirtual 192, [0, 102, 1, 7]), (126, .ireturn, [])]
set_option maxRecDepth 20000 in
def mC130 : mCodeT := mB130_0 ++ (mB130_52 ++ (mB130_62 ++ (mB130_72 ++ (mB130_88 ++ (mB130_97 ++ (mB130_106 ++ (mB130_118)))))))
def mM130 : mRec := (yX11_cell, cX11_cell, 3, (some .int), [], [], mC130)
-- LaneEyes.look(II)I
set_option maxRecDepth 20000 in
def mB131_0 : mCodeT := [(0, .aload_n 0, []), (1, .iload_n 1, []), (2, .invokevirtual 195, [0, 167, 1, 9]), (5, .aload_n 0, []), (6, .iload_n 2, []), (7, .iconst 1, []), (8, .invokevirtual 116, [0, 165, 2, 9]), (11, .iload_n 2, []), (12, .ifCond .ne 15, []), (15, .aload_n 0, []), (16, .getfield 52, [9, 9]), (19, .getfield 198, [0, 2]), (22, .iload_n 1, []), (23, .iaload, []), (24, .goto 12, [])]
set_option maxRecDepth 20000 in
def mB131_27 : mCodeT := [(27, .aload_n 0, []), (28, .getfield 52, [9, 9]), (31, .getfield 201, [0, 3]), (34, .iload_n 1, []), (35, .iaload, [])]
set_option maxRecDepth 20000 in
def mB131_36 : mCodeT := [(36, .ireturn, [])]
set_option maxRecDepth 20000 in
def mC131 : mCodeT := mB131_0 ++ (mB131_27 ++ (mB131_36))
def mM131 : mRec := (yX11_look, cX11_look, 3, (some .int), [], [], mC131)
-- LaneEyes.swimmer(II)I
set_option maxRecDepth 20000 in
def mB132_0 : mCodeT := [(0, .aload_n 0, []), (1, .iload_n 1, []), (2, .invokevirtual 204, [0, 168, 1, 9]), (5, .aload_n 0, []), (6, .iload_n 2, []), (7, .iconst 2, []), (8, .invokevirtual 116, [0, 165, 2, 9]), (11, .iload_n 2, []), (12, .lookupswitch 48 #[(0, 28), (1, 38)], [])]
set_option maxRecDepth 20000 in
def mB132_40 : mCodeT := [(40, .aload_n 0, []), (41, .getfield 52, [9, 9]), (44, .getfield 207, [0, 0]), (47, .iload_n 1, []), (48, .iaload, []), (49, .ireturn, [])]
set_option maxRecDepth 20000 in
def mB132_50 : mCodeT := [(50, .aload_n 0, []), (51, .getfield 47, [9, 8]), (54, .getfield 210, [3, 5]), (57, .iload_n 1, []), (58, .iaload, []), (59, .ireturn, [])]
set_option maxRecDepth 20000 in
def mB132_60 : mCodeT := [(60, .aload_n 0, []), (61, .getfield 39, [9, 7]), (64, .iload_n 1, []), (65, .invokevirtual 213, [0, 85, 1, 7]), (68, .ireturn, [])]
set_option maxRecDepth 20000 in
def mC132 : mCodeT := mB132_0 ++ (mB132_40 ++ (mB132_50 ++ (mB132_60)))
def mM132 : mRec := (yX11_swimmer, cX11_swimmer, 3, (some .int), [], [], mC132)
-- LaneEyes.delay(II)I
set_option maxRecDepth 20000 in
def mB133_0 : mCodeT := [(0, .aload_n 0, []), (1, .iload_n 1, []), (2, .invokevirtual 166, [0, 166, 1, 9]), (5, .iload_n 2, []), (6, .ifCond .lt 14, []), (9, .iload_n 2, []), (10, .aload_n 0, []), (11, .getfield 39, [9, 7]), (14, .invokevirtual 150, [0, 80, 0, 7]), (17, .if_icmp .lt 13, [])]
set_option maxRecDepth 20000 in
def mB133_20 : mCodeT := [(20, .new 216, [777, 1, 220, 218, 0])]
set_option maxRecDepth 20000 in
def mB133_30 : mCodeT := [(30, .aload_n 0, []), (31, .getfield 39, [9, 7]), (34, .iload_n 1, []), (35, .iload_n 2, []), (36, .invokevirtual 221, [0, 101, 2, 7]), (39, .invokestatic 189, [1, 170, 1]), (42, .ireturn, [])]
set_option maxRecDepth 20000 in
def mC133 : mCodeT := mB133_0 ++ (mB133_20 ++ (mB133_30))
def mM133 : mRec := (yX11_delay, cX11_delay, 3, (some .int), [], [], mC133)
-- LaneEyes.worst(I)I
set_option maxRecDepth 20000 in
def mB134_0 : mCodeT := [(0, .aload_n 0, []), (1, .iload_n 1, []), (2, .iconst 1, []), (3, .invokevirtual 116, [0, 165, 2, 9]), (6, .iload_n 1, []), (7, .ifCond .ne 16, []), (10, .aload_n 0, []), (11, .getfield 39, [9, 7]), (14, .invokevirtual 224, [0, 94, 0, 7]), (17, .invokestatic 189, [1, 170, 1]), (20, .goto 10, [])]
set_option maxRecDepth 20000 in
def mB134_23 : mCodeT := [(23, .aload_n 0, []), (24, .getfield 39, [9, 7]), (27, .invokevirtual 227, [0, 95, 0, 7])]
set_option maxRecDepth 20000 in
def mB134_30 : mCodeT := [(30, .ireturn, [])]
set_option maxRecDepth 20000 in
def mC134 : mCodeT := mB134_0 ++ (mB134_23 ++ (mB134_30))
def mM134 : mRec := (yX11_worst, cX11_worst, 2, (some .int), [], [], mC134)
-- LaneEyes.swim(II)I
set_option maxRecDepth 20000 in
def mB135_0 : mCodeT := [(0, .aload_n 0, []), (1, .iload_n 1, []), (2, .invokevirtual 204, [0, 168, 1, 9]), (5, .aload_n 0, []), (6, .getfield 47, [9, 8]), (9, .iload_n 2, []), (10, .invokevirtual 230, [0, 46, 1, 3]), (13, .ifCond .ne 15, []), (16, .aload_n 0, []), (17, .dup, []), (18, .getfield 23, [9, 4]), (21, .iconst 1, []), (22, .iadd, []), (23, .putfield 23, [9, 4]), (26, .iconst (-1), []), (27, .ireturn, [])]
set_option maxRecDepth 20000 in
def mB135_28 : mCodeT := [(28, .aload_n 0, []), (29, .getfield 52, [9, 9]), (32, .getfield 207, [0, 0]), (35, .iload_n 1, []), (36, .iaload, []), (37, .istore_n 3, []), (38, .aload_n 0, []), (39, .getfield 52, [9, 9]), (42, .iconst 0, []), (43, .iload_n 1, []), (44, .iload_n 3, []), (45, .invokevirtual 234, [0, 3, 3, 0]), (48, .aload_n 0, []), (49, .getfield 52, [9, 9]), (52, .getfield 207, [0, 0]), (55, .iload_n 1, []), (56, .iload_n 2, []), (57, .iastore, []), (58, .iload_n 3, []), (59, .ireturn, [])]
set_option maxRecDepth 20000 in
def mC135 : mCodeT := mB135_0 ++ (mB135_28)
def mM135 : mRec := (yX11_swim, cX11_swim, 4, (some .int), [], [], mC135)
-- LaneEyes.chair(I)I
set_option maxRecDepth 20000 in
def mB136_0 : mCodeT := [(0, .aload_n 0, []), (1, .getfield 47, [9, 8]), (4, .iload_n 1, []), (5, .invokevirtual 230, [0, 46, 1, 3]), (8, .ifCond .ne 15, []), (11, .aload_n 0, []), (12, .dup, []), (13, .getfield 23, [9, 4]), (16, .iconst 1, []), (17, .iadd, []), (18, .putfield 23, [9, 4]), (21, .iconst (-1), []), (22, .ireturn, [])]
set_option maxRecDepth 20000 in
def mB136_23 : mCodeT := [(23, .aload_n 0, []), (24, .getfield 52, [9, 9]), (27, .getfield 132, [0, 1]), (30, .istore_n 2, []), (31, .aload_n 0, []), (32, .getfield 52, [9, 9]), (35, .iconst 1, []), (36, .iconst 0, []), (37, .iload_n 2, []), (38, .invokevirtual 234, [0, 3, 3, 0]), (41, .aload_n 0, []), (42, .getfield 52, [9, 9]), (45, .iload_n 1, []), (46, .putfield 132, [0, 1]), (49, .iload_n 2, []), (50, .ireturn, [])]
set_option maxRecDepth 20000 in
def mC136 : mCodeT := mB136_0 ++ (mB136_23)
def mM136 : mRec := (yX11_chair, cX11_chair, 3, (some .int), [], [], mC136)
-- LaneEyes.lasts(II)I
set_option maxRecDepth 20000 in
def mB137_0 : mCodeT := [(0, .aload_n 0, []), (1, .iload_n 1, []), (2, .invokevirtual 195, [0, 167, 1, 9]), (5, .iload_n 2, []), (6, .iconst 1, []), (7, .if_icmp .lt 9, []), (10, .iload_n 2, []), (11, .bipush 9, []), (13, .if_icmp .le 15, [])]
set_option maxRecDepth 20000 in
def mB137_16 : mCodeT := [(16, .aload_n 0, []), (17, .dup, []), (18, .getfield 23, [9, 4]), (21, .iconst 1, []), (22, .iadd, []), (23, .putfield 23, [9, 4]), (26, .iconst (-1), []), (27, .ireturn, [])]
set_option maxRecDepth 20000 in
def mB137_28 : mCodeT := [(28, .aload_n 0, []), (29, .getfield 52, [9, 9]), (32, .getfield 201, [0, 3]), (35, .iload_n 1, []), (36, .iaload, []), (37, .istore_n 3, []), (38, .aload_n 0, []), (39, .getfield 52, [9, 9]), (42, .iconst 2, []), (43, .iload_n 1, []), (44, .iload_n 3, []), (45, .invokevirtual 234, [0, 3, 3, 0]), (48, .aload_n 0, []), (49, .getfield 52, [9, 9]), (52, .getfield 201, [0, 3]), (55, .iload_n 1, []), (56, .iload_n 2, []), (57, .iastore, []), (58, .iload_n 3, []), (59, .ireturn, [])]
set_option maxRecDepth 20000 in
def mC137 : mCodeT := mB137_0 ++ (mB137_16 ++ (mB137_28))
def mM137 : mRec := (yX11_lasts, cX11_lasts, 4, (some .int), [], [], mC137)
-- LaneEyes.change(II)Z
set_option maxRecDepth 20000 in
def mB138_0 : mCodeT := [(0, .aload_n 0, []), (1, .getfield 47, [9, 8]), (4, .iload_n 1, []), (5, .invokevirtual 238, [0, 47, 1, 3]), (8, .ifCond .eq 19, []), (11, .aload_n 0, []), (12, .getfield 47, [9, 8]), (15, .iload_n 2, []), (16, .invokevirtual 238, [0, 47, 1, 3]), (19, .ifCond .eq 8, []), (22, .iload_n 1, []), (23, .iload_n 2, []), (24, .if_icmp .ne 15, [])]
set_option maxRecDepth 20000 in
def mB138_27 : mCodeT := [(27, .aload_n 0, []), (28, .dup, []), (29, .getfield 23, [9, 4]), (32, .iconst 1, []), (33, .iadd, []), (34, .putfield 23, [9, 4]), (37, .iconst 0, []), (38, .ireturn, [])]
set_option maxRecDepth 20000 in
def mB138_39 : mCodeT := [(39, .aload_n 0, []), (40, .getfield 52, [9, 9]), (43, .iconst 3, []), (44, .iload_n 1, []), (45, .iload_n 2, []), (46, .invokevirtual 234, [0, 3, 3, 0]), (49, .aload_n 0, []), (50, .getfield 52, [9, 9]), (53, .iload_n 1, []), (54, .iload_n 2, []), (55, .invokevirtual 241, [0, 5, 2, 0]), (58, .iconst 1, []), (59, .ireturn, [])]
set_option maxRecDepth 20000 in
def mC138 : mCodeT := mB138_0 ++ (mB138_27 ++ (mB138_39))
def mM138 : mRec := (yX11_change, cX11_change, 3, (some .boolean), [], [], mC138)
-- LaneEyes.minutes(I)I
set_option maxRecDepth 20000 in
def mB139_0 : mCodeT := [(0, .iload_n 1, []), (1, .ifCond .lt 10, []), (4, .iload_n 1, []), (5, .sipush 999, []), (8, .if_icmp .le 15, [])]
set_option maxRecDepth 20000 in
def mB139_11 : mCodeT := [(11, .aload_n 0, []), (12, .dup, []), (13, .getfield 23, [9, 4]), (16, .iconst 1, []), (17, .iadd, []), (18, .putfield 23, [9, 4]), (21, .iconst (-1), []), (22, .ireturn, [])]
set_option maxRecDepth 20000 in
def mB139_23 : mCodeT := [(23, .aload_n 0, []), (24, .getfield 52, [9, 9]), (27, .getfield 141, [0, 4]), (30, .istore_n 2, []), (31, .aload_n 0, []), (32, .getfield 52, [9, 9]), (35, .iconst 4, []), (36, .iconst 0, []), (37, .iload_n 2, []), (38, .invokevirtual 234, [0, 3, 3, 0]), (41, .aload_n 0, []), (42, .getfield 52, [9, 9]), (45, .iload_n 1, []), (46, .putfield 141, [0, 4]), (49, .iload_n 2, []), (50, .ireturn, [])]
set_option maxRecDepth 20000 in
def mC139 : mCodeT := mB139_0 ++ (mB139_11 ++ (mB139_23))
def mM139 : mRec := (yX11_minutes, cX11_minutes, 3, (some .int), [], [], mC139)
-- LaneEyes.undo()I
set_option maxRecDepth 20000 in
def mB140_0 : mCodeT := [(0, .aload_n 0, []), (1, .getfield 52, [9, 9]), (4, .getfield 154, [0, 5]), (7, .ifCond .ne 5, []), (10, .iconst (-1), []), (11, .ireturn, [])]
set_option maxRecDepth 20000 in
def mB140_12 : mCodeT := [(12, .aload_n 0, []), (13, .getfield 52, [9, 9]), (16, .invokevirtual 244, [0, 4, 0, 0]), (19, .aload_n 0, []), (20, .getfield 52, [9, 9]), (23, .getfield 154, [0, 5]), (26, .ireturn, [])]
set_option maxRecDepth 20000 in
def mC140 : mCodeT := mB140_0 ++ (mB140_12)
def mM140 : mRec := (yX11_undo, cX11_undo, 1, (some .int), [], [], mC140)
-- LaneEyes.order()I
set_option maxRecDepth 20000 in
def mB141_0 : mCodeT := [(0, .aload_n 0, []), (1, .getfield 47, [9, 8]), (4, .getfield 129, [3, 6]), (7, .bipush 7, []), (9, .if_icmp .le 6, []), (12, .bipush (-2), []), (14, .ireturn, [])]
set_option maxRecDepth 20000 in
def mB141_15 : mCodeT := [(15, .aload_n 0, []), (16, .getfield 39, [9, 7]), (19, .aload_n 0, []), (20, .getfield 77, [9, 14]), (23, .invokevirtual 247, [0, 104, 1, 7]), (26, .istore_n 1, []), (27, .aload_n 0, []), (28, .aload_n 0, []), (29, .getfield 47, [9, 8]), (32, .getfield 129, [3, 6]), (35, .putfield 81, [9, 15]), (38, .iload_n 1, []), (39, .invokestatic 189, [1, 170, 1]), (42, .ireturn, [])]
set_option maxRecDepth 20000 in
def mC141 : mCodeT := mB141_0 ++ (mB141_15)
def mM141 : mRec := (yX11_order, cX11_order, 2, (some .int), [], [], mC141)
-- LaneEyes.lengths()I
set_option maxRecDepth 20000 in
def mB142_0 : mCodeT := [(0, .aload_n 0, []), (1, .getfield 47, [9, 8]), (4, .getfield 129, [3, 6]), (7, .iconst 5, []), (8, .if_icmp .le 6, []), (11, .bipush (-2), []), (13, .ireturn, [])]
set_option maxRecDepth 20000 in
def mB142_14 : mCodeT := [(14, .aload_n 0, []), (15, .getfield 39, [9, 7]), (18, .aload_n 0, []), (19, .getfield 77, [9, 14]), (22, .invokevirtual 251, [0, 108, 1, 7]), (25, .istore_n 1, []), (26, .aload_n 0, []), (27, .aload_n 0, []), (28, .getfield 47, [9, 8]), (31, .getfield 129, [3, 6]), (34, .putfield 81, [9, 15]), (37, .iload_n 1, []), (38, .invokestatic 189, [1, 170, 1]), (41, .ireturn, [])]
set_option maxRecDepth 20000 in
def mC142 : mCodeT := mB142_0 ++ (mB142_14)
def mM142 : mRec := (yX11_lengths, cX11_lengths, 2, (some .int), [], [], mC142)
-- LaneEyes.row(I)I
set_option maxRecDepth 20000 in
def mB143_0 : mCodeT := [(0, .iload_n 1, []), (1, .ifCond .lt 11, []), (4, .iload_n 1, []), (5, .aload_n 0, []), (6, .getfield 81, [9, 15]), (9, .if_icmp .lt 13, [])]
set_option maxRecDepth 20000 in
def mB143_12 : mCodeT := [(12, .new 216, [777, 1, 220, 254, 0])]
set_option maxRecDepth 20000 in
def mB143_22 : mCodeT := [(22, .aload_n 0, []), (23, .getfield 77, [9, 14]), (26, .iload_n 1, []), (27, .iaload, []), (28, .ireturn, [])]
set_option maxRecDepth 20000 in
def mC143 : mCodeT := mB143_0 ++ (mB143_12 ++ (mB143_22))
def mM143 : mRec := (yX11_row, cX11_row, 2, (some .int), [], [], mC143)
-- LaneEyes.best(I)I
set_option maxRecDepth 20000 in
def mB144_0 : mCodeT := [(0, .aload_n 0, []), (1, .iload_n 1, []), (2, .iconst 1, []), (3, .invokevirtual 116, [0, 165, 2, 9]), (6, .aload_n 0, []), (7, .getfield 39, [9, 7]), (10, .invokevirtual 256, [0, 110, 0, 7]), (13, .istore_n 2, []), (14, .iload_n 1, []), (15, .ifCond .ne 7, []), (18, .iload_n 2, []), (19, .goto 14, [])]
set_option maxRecDepth 20000 in
def mB144_22 : mCodeT := [(22, .aload_n 0, []), (23, .getfield 39, [9, 7]), (26, .iload_n 2, []), (27, .invokevirtual 259, [0, 98, 1, 7]), (30, .invokestatic 189, [1, 170, 1])]
set_option maxRecDepth 20000 in
def mB144_33 : mCodeT := [(33, .ireturn, [])]
set_option maxRecDepth 20000 in
def mC144 : mCodeT := mB144_0 ++ (mB144_22 ++ (mB144_33))
def mM144 : mRec := (yX11_best, cX11_best, 3, (some .int), [], [], mC144)
-- LaneEyes.away(I)I
set_option maxRecDepth 20000 in
def mB145_0 : mCodeT := [(0, .aload_n 0, []), (1, .iload_n 1, []), (2, .invokevirtual 195, [0, 167, 1, 9]), (5, .aload_n 0, []), (6, .getfield 39, [9, 7]), (9, .iload_n 1, []), (10, .invokevirtual 262, [0, 111, 1, 7]), (13, .ireturn, [])]
set_option maxRecDepth 20000 in
def mC145 : mCodeT := mB145_0
def mM145 : mRec := (yX11_away, cX11_away, 2, (some .int), [], [], mC145)
-- LaneEyes.swap()I
set_option maxRecDepth 20000 in
def mB146_0 : mCodeT := [(0, .aload_n 0, []), (1, .getfield 39, [9, 7]), (4, .invokevirtual 265, [0, 112, 0, 7]), (7, .ireturn, [])]
set_option maxRecDepth 20000 in
def mC146 : mCodeT := mB146_0
def mM146 : mRec := (yX11_swap, cX11_swap, 1, (some .int), [], [], mC146)
-- LaneEyes.many()I
set_option maxRecDepth 20000 in
def mB147_0 : mCodeT := [(0, .aload_n 0, []), (1, .getfield 39, [9, 7]), (4, .invokevirtual 268, [0, 113, 0, 7]), (7, .ireturn, [])]
set_option maxRecDepth 20000 in
def mC147 : mCodeT := mB147_0
def mM147 : mRec := (yX11_many, cX11_many, 1, (some .int), [], [], mC147)
-- LaneEyes.halves(I)I
set_option maxRecDepth 20000 in
def mB148_0 : mCodeT := [(0, .iload_n 1, []), (1, .iconst 1, []), (2, .if_icmp .lt 14, []), (5, .iload_n 1, []), (6, .aload_n 0, []), (7, .getfield 47, [9, 8]), (10, .getfield 120, [3, 0]), (13, .if_icmp .lt 14, [])]
set_option maxRecDepth 20000 in
def mB148_16 : mCodeT := [(16, .new 88, [777, 0, 92, 271, 1])]
set_option maxRecDepth 20000 in
def mB148_27 : mCodeT := [(27, .aload_n 0, []), (28, .getfield 39, [9, 7]), (31, .iload_n 1, []), (32, .invokevirtual 273, [0, 114, 1, 7]), (35, .invokestatic 189, [1, 170, 1]), (38, .ireturn, [])]
set_option maxRecDepth 20000 in
def mC148 : mCodeT := mB148_0 ++ (mB148_16 ++ (mB148_27))
def mM148 : mRec := (yX11_halves, cX11_halves, 2, (some .int), [], [], mC148)
-- LaneEyes.two(I)I
set_option maxRecDepth 20000 in
def mB149_0 : mCodeT := [(0, .aload_n 0, []), (1, .iload_n 1, []), (2, .iconst 2, []), (3, .invokevirtual 116, [0, 165, 2, 9]), (6, .iload_n 1, []), (7, .iconst 2, []), (8, .if_icmp .ne 14, []), (11, .aload_n 0, []), (12, .getfield 39, [9, 7]), (15, .invokevirtual 276, [0, 117, 0, 7]), (18, .invokestatic 189, [1, 170, 1]), (21, .ireturn, [])]
set_option maxRecDepth 20000 in
def mB149_22 : mCodeT := [(22, .aload_n 0, []), (23, .getfield 39, [9, 7]), (26, .invokevirtual 279, [0, 116, 0, 7]), (29, .istore_n 2, []), (30, .iload_n 1, []), (31, .ifCond .eq 8, []), (34, .iload_n 2, []), (35, .iconst (-1), []), (36, .if_icmp .ne 5, [])]
set_option maxRecDepth 20000 in
def mB149_39 : mCodeT := [(39, .iload_n 2, []), (40, .ireturn, [])]
set_option maxRecDepth 20000 in
def mB149_41 : mCodeT := [(41, .aload_n 0, []), (42, .getfield 39, [9, 7]), (45, .iload_n 2, []), (46, .invokevirtual 273, [0, 114, 1, 7]), (49, .invokestatic 189, [1, 170, 1]), (52, .ireturn, [])]
set_option maxRecDepth 20000 in
def mC149 : mCodeT := mB149_0 ++ (mB149_22 ++ (mB149_39 ++ (mB149_41)))
def mM149 : mRec := (yX11_two, cX11_two, 3, (some .int), [], [], mC149)
-- LaneEyes.game(II)I
set_option maxRecDepth 20000 in
def mB150_0 : mCodeT := [(0, .iload_n 1, []), (1, .ifCond .lt 14, []), (4, .iload_n 1, []), (5, .aload_n 0, []), (6, .getfield 47, [9, 8]), (9, .getfield 144, [3, 9]), (12, .if_icmp .lt 14, [])]
set_option maxRecDepth 20000 in
def mB150_15 : mCodeT := [(15, .new 216, [777, 1, 220, 282, 1])]
set_option maxRecDepth 20000 in
def mB150_26 : mCodeT := [(26, .aload_n 0, []), (27, .iload_n 2, []), (28, .iconst 1, []), (29, .invokevirtual 116, [0, 165, 2, 9]), (32, .aload_n 0, []), (33, .getfield 39, [9, 7]), (36, .iload_n 1, []), (37, .iload_n 2, []), (38, .iconst 1, []), (39, .if_icmp .ne 7, []), (42, .iconst 1, []), (43, .goto 4, [])]
set_option maxRecDepth 20000 in
def mB150_46 : mCodeT := [(46, .iconst 0, [])]
set_option maxRecDepth 20000 in
def mB150_47 : mCodeT := [(47, .invokevirtual 284, [0, 88, 2, 7]), (50, .ireturn, [])]
set_option maxRecDepth 20000 in
def mC150 : mCodeT := mB150_0 ++ (mB150_15 ++ (mB150_26 ++ (mB150_46 ++ (mB150_47))))
def mM150 : mRec := (yX11_game, cX11_game, 3, (some .int), [], [], mC150)
-- LaneEyes.fun()I
set_option maxRecDepth 20000 in
def mB151_0 : mCodeT := [(0, .aload_n 0, []), (1, .getfield 39, [9, 7]), (4, .invokevirtual 288, [0, 89, 0, 7]), (7, .ireturn, [])]
set_option maxRecDepth 20000 in
def mC151 : mCodeT := mB151_0
def mM151 : mRec := (yX11_fun, cX11_fun, 1, (some .int), [], [], mC151)
-- LaneEyes.jump(II)I
set_option maxRecDepth 20000 in
def mB152_0 : mCodeT := [(0, .aload_n 0, []), (1, .iload_n 1, []), (2, .invokevirtual 291, [0, 169, 1, 9]), (5, .aload_n 0, []), (6, .iload_n 2, []), (7, .invokevirtual 291, [0, 169, 1, 9]), (10, .iconst 0, []), (11, .istore_n 3, [])]
set_option maxRecDepth 20000 in
def mB152_12 : mCodeT := [(12, .iload_n 3, []), (13, .bipush 10, []), (15, .if_icmp .ge 23, []), (18, .iload_n 3, []), (19, .iload_n 2, []), (20, .imul, []), (21, .bipush 10, []), (23, .iload_n 3, []), (24, .isub, []), (25, .iload_n 1, []), (26, .imul, []), (27, .if_icmp .lt 5, []), (30, .iload_n 3, []), (31, .ireturn, [])]
set_option maxRecDepth 20000 in
def mB152_32 : mCodeT := [(32, .iinc 3 1, []), (35, .goto (-23), [])]
set_option maxRecDepth 20000 in
def mB152_38 : mCodeT := [(38, .bipush 10, []), (40, .ireturn, [])]
set_option maxRecDepth 20000 in
def mC152 : mCodeT := mB152_0 ++ (mB152_12 ++ (mB152_32 ++ (mB152_38)))
def mM152 : mRec := (yX11_jump, cX11_jump, 4, (some .int), [], [], mC152)
-- LaneEyes.dummy(I)I
set_option maxRecDepth 20000 in
def mB153_0 : mCodeT := [(0, .aload_n 0, []), (1, .getfield 52, [9, 9]), (4, .getfield 157, [0, 7]), (7, .bipush 12, []), (9, .if_icmp .ge 14, []), (12, .iload_n 1, []), (13, .ifCond .lt 10, []), (16, .iload_n 1, []), (17, .sipush 999, []), (20, .if_icmp .le 15, [])]
set_option maxRecDepth 20000 in
def mB153_23 : mCodeT := [(23, .aload_n 0, []), (24, .dup, []), (25, .getfield 26, [9, 5]), (28, .iconst 1, []), (29, .iadd, []), (30, .putfield 26, [9, 5]), (33, .iconst (-1), []), (34, .ireturn, [])]
set_option maxRecDepth 20000 in
def mB153_35 : mCodeT := [(35, .aload_n 0, []), (36, .getfield 52, [9, 9]), (39, .getfield 294, [0, 8]), (42, .aload_n 0, []), (43, .getfield 52, [9, 9]), (46, .getfield 157, [0, 7]), (49, .iload_n 1, []), (50, .iastore, []), (51, .aload_n 0, []), (52, .getfield 52, [9, 9]), (55, .dup, []), (56, .getfield 157, [0, 7]), (59, .iconst 1, []), (60, .iadd, []), (61, .putfield 157, [0, 7]), (64, .aload_n 0, []), (65, .getfield 52, [9, 9]), (68, .getfield 157, [0, 7]), (71, .ireturn, [])]
set_option maxRecDepth 20000 in
def mC153 : mCodeT := mB153_0 ++ (mB153_23 ++ (mB153_35))
def mM153 : mRec := (yX11_dummy, cX11_dummy, 2, (some .int), [], [], mC153)
-- LaneEyes.dummies(I)I
set_option maxRecDepth 20000 in
def mB154_0 : mCodeT := [(0, .aload_n 0, []), (1, .iload_n 1, []), (2, .iconst 3, []), (3, .invokevirtual 116, [0, 165, 2, 9]), (6, .iload_n 1, []), (7, .tableswitch 69 0 2 #[25, 43, 61], [])]
set_option maxRecDepth 20000 in
def mB154_32 : mCodeT := [(32, .aload_n 0, []), (33, .getfield 52, [9, 9]), (36, .invokevirtual 297, [0, 6, 0, 0]), (39, .aload_n 0, []), (40, .getfield 52, [9, 9]), (43, .getfield 157, [0, 7]), (46, .invokestatic 300, [1, 171, 2]), (49, .ireturn, [])]
set_option maxRecDepth 20000 in
def mB154_50 : mCodeT := [(50, .aload_n 0, []), (51, .getfield 52, [9, 9]), (54, .invokevirtual 297, [0, 6, 0, 0]), (57, .aload_n 0, []), (58, .getfield 52, [9, 9]), (61, .getfield 157, [0, 7]), (64, .invokestatic 303, [1, 172, 2]), (67, .ireturn, [])]
set_option maxRecDepth 20000 in
def mB154_68 : mCodeT := [(68, .aload_n 0, []), (69, .getfield 52, [9, 9]), (72, .invokevirtual 306, [0, 7, 0, 0]), (75, .ireturn, [])]
set_option maxRecDepth 20000 in
def mB154_76 : mCodeT := [(76, .aload_n 0, []), (77, .getfield 52, [9, 9]), (80, .aload_n 0, []), (81, .getfield 47, [9, 8]), (84, .getfield 135, [3, 7]), (87, .invokevirtual 309, [0, 8, 1, 0]), (90, .ireturn, [])]
set_option maxRecDepth 20000 in
def mC154 : mCodeT := mB154_0 ++ (mB154_32 ++ (mB154_50 ++ (mB154_68 ++ (mB154_76))))
def mM154 : mRec := (yX11_dummies, cX11_dummies, 2, (some .int), [], [], mC154)
-- LaneEyes.more(I)I
set_option maxRecDepth 20000 in
def mB155_0 : mCodeT := [(0, .aload_n 0, []), (1, .iload_n 1, []), (2, .invokevirtual 291, [0, 169, 1, 9]), (5, .iload_n 1, []), (6, .iconst 1, []), (7, .if_icmp .ge 7, []), (10, .iconst 0, []), (11, .goto 16, [])]
set_option maxRecDepth 20000 in
def mB155_14 : mCodeT := [(14, .aload_n 0, []), (15, .getfield 52, [9, 9]), (18, .invokevirtual 297, [0, 6, 0, 0]), (21, .iload_n 1, []), (22, .iadd, []), (23, .iconst 1, []), (24, .isub, []), (25, .iload_n 1, []), (26, .idiv, [])]
set_option maxRecDepth 20000 in
def mB155_27 : mCodeT := [(27, .istore_n 2, []), (28, .iconst 0, []), (29, .iload_n 2, []), (30, .aload_n 0, []), (31, .getfield 52, [9, 9]), (34, .getfield 157, [0, 7]), (37, .isub, []), (38, .invokestatic 312, [9010, 99999]), (41, .ireturn, [])]
set_option maxRecDepth 20000 in
def mC155 : mCodeT := mB155_0 ++ (mB155_14 ++ (mB155_27))
def mM155 : mRec := (yX11_more, cX11_more, 3, (some .int), [], [], mC155)
-- LaneEyes.heads(II)I
set_option maxRecDepth 20000 in
def mB156_0 : mCodeT := [(0, .aload_n 0, []), (1, .getfield 52, [9, 9]), (4, .getfield 160, [0, 9]), (7, .bipush 8, []), (9, .if_icmp .ge 28, []), (12, .iload_n 1, []), (13, .ifCond .lt 24, []), (16, .iload_n 1, []), (17, .aload_n 0, []), (18, .getfield 47, [9, 8]), (21, .getfield 123, [3, 1]), (24, .if_icmp .ge 13, []), (27, .iload_n 2, []), (28, .ifCond .lt 9, []), (31, .iload_n 2, []), (32, .bipush 12, []), (34, .if_icmp .le 15, [])]
set_option maxRecDepth 20000 in
def mB156_37 : mCodeT := [(37, .aload_n 0, []), (38, .dup, []), (39, .getfield 26, [9, 5]), (42, .iconst 1, []), (43, .iadd, []), (44, .putfield 26, [9, 5]), (47, .iconst (-1), []), (48, .ireturn, [])]
set_option maxRecDepth 20000 in
def mB156_49 : mCodeT := [(49, .aload_n 0, []), (50, .getfield 52, [9, 9]), (53, .getfield 317, [0, 10]), (56, .aload_n 0, []), (57, .getfield 52, [9, 9]), (60, .getfield 160, [0, 9]), (63, .iload_n 1, []), (64, .iastore, []), (65, .aload_n 0, []), (66, .getfield 52, [9, 9]), (69, .getfield 320, [0, 11]), (72, .aload_n 0, []), (73, .getfield 52, [9, 9]), (76, .getfield 160, [0, 9]), (79, .iload_n 2, []), (80, .iastore, []), (81, .aload_n 0, []), (82, .getfield 52, [9, 9]), (85, .dup, []), (86, .getfield 160, [0, 9]), (89, .iconst 1, []), (90, .iadd, []), (91, .putfield 160, [0, 9]), (94, .aload_n 0, []), (95, .getfield 52, [9, 9]), (98, .getfield 160, [0, 9]), (101, .ireturn, [])]
set_option maxRecDepth 20000 in
def mC156 : mCodeT := mB156_0 ++ (mB156_37 ++ (mB156_49))
def mM156 : mRec := (yX11_heads, cX11_heads, 3, (some .int), [], [], mC156)
-- LaneEyes.forget()V
set_option maxRecDepth 20000 in
def mB157_0 : mCodeT := [(0, .aload_n 0, []), (1, .getfield 52, [9, 9]), (4, .iconst 0, []), (5, .putfield 157, [0, 7]), (8, .aload_n 0, []), (9, .getfield 52, [9, 9]), (12, .iconst 0, []), (13, .putfield 160, [0, 9]), (16, .return_, [])]
set_option maxRecDepth 20000 in
def mC157 : mCodeT := mB157_0
def mM157 : mRec := (yX11_forget, cX11_forget, 1, none, [], [], mC157)
-- LaneEyes.missing(I)I
set_option maxRecDepth 20000 in
def mB158_0 : mCodeT := [(0, .aload_n 0, []), (1, .iload_n 1, []), (2, .iconst 2, []), (3, .invokevirtual 116, [0, 165, 2, 9]), (6, .aload_n 0, []), (7, .getfield 73, [9, 13]), (10, .aload_n 0, []), (11, .getfield 47, [9, 8]), (14, .aload_n 0, []), (15, .getfield 52, [9, 9]), (18, .invokevirtual 323, [0, 10, 2, 1]), (21, .iload_n 1, []), (22, .lookupswitch 42 #[(0, 26), (1, 34)], [])]
set_option maxRecDepth 20000 in
def mB158_48 : mCodeT := [(48, .aload_n 0, []), (49, .getfield 73, [9, 13]), (52, .getfield 327, [1, 0]), (55, .ireturn, [])]
set_option maxRecDepth 20000 in
def mB158_56 : mCodeT := [(56, .aload_n 0, []), (57, .getfield 73, [9, 13]), (60, .getfield 330, [1, 1]), (63, .ireturn, [])]
set_option maxRecDepth 20000 in
def mB158_64 : mCodeT := [(64, .aload_n 0, []), (65, .getfield 73, [9, 13]), (68, .getfield 333, [1, 2]), (71, .ireturn, [])]
set_option maxRecDepth 20000 in
def mC158 : mCodeT := mB158_0 ++ (mB158_48 ++ (mB158_56 ++ (mB158_64)))
def mM158 : mRec := (yX11_missing, cX11_missing, 2, (some .int), [], [], mC158)
-- LaneEyes.week(III)I
set_option maxRecDepth 20000 in
def mB159_0 : mCodeT := [(0, .aload_n 0, []), (1, .iload_n 3, []), (2, .iconst 2, []), (3, .invokevirtual 116, [0, 165, 2, 9]), (6, .iload_n 2, []), (7, .ifCond .lt 9, []), (10, .iload_n 2, []), (11, .bipush 100, []), (13, .if_icmp .le 14, [])]
set_option maxRecDepth 20000 in
def mB159_16 : mCodeT := [(16, .new 88, [777, 0, 92, 336, 1])]
set_option maxRecDepth 20000 in
def mB159_27 : mCodeT := [(27, .aload_n 0, []), (28, .getfield 66, [9, 12]), (31, .aload_n 0, []), (32, .getfield 39, [9, 7]), (35, .iload_n 1, []), (36, .iload_n 2, []), (37, .invokevirtual 338, [0, 119, 3, 8]), (40, .iload_n 3, []), (41, .lookupswitch 43 #[(0, 27), (1, 35)], [])]
set_option maxRecDepth 20000 in
def mB159_68 : mCodeT := [(68, .aload_n 0, []), (69, .getfield 66, [9, 12]), (72, .getfield 341, [8, 0]), (75, .ireturn, [])]
set_option maxRecDepth 20000 in
def mB159_76 : mCodeT := [(76, .aload_n 0, []), (77, .getfield 66, [9, 12]), (80, .getfield 344, [8, 1]), (83, .ireturn, [])]
set_option maxRecDepth 20000 in
def mB159_84 : mCodeT := [(84, .aload_n 0, []), (85, .getfield 66, [9, 12]), (88, .getfield 347, [8, 2]), (91, .ireturn, [])]
set_option maxRecDepth 20000 in
def mC159 : mCodeT := mB159_0 ++ (mB159_16 ++ (mB159_27 ++ (mB159_68 ++ (mB159_76 ++ (mB159_84)))))
def mM159 : mRec := (yX11_week, cX11_week, 4, (some .int), [], [], mC159)
-- LaneEyes.blind()J
set_option maxRecDepth 20000 in
def mB160_0 : mCodeT := [(0, .aload_n 0, []), (1, .getfield 39, [9, 7]), (4, .invokevirtual 350, [0, 99, 0, 7]), (7, .lreturn, [])]
set_option maxRecDepth 20000 in
def mC160 : mCodeT := mB160_0
def mM160 : mRec := (yX11_blind, cX11_blind, 1, (some .long), [], [], mC160)
-- LaneEyes.without(I)I
set_option maxRecDepth 20000 in
def mB161_0 : mCodeT := [(0, .aload_n 0, []), (1, .iload_n 1, []), (2, .invokevirtual 195, [0, 167, 1, 9]), (5, .aload_n 0, []), (6, .getfield 39, [9, 7]), (9, .iload_n 1, []), (10, .invokevirtual 354, [0, 97, 1, 7]), (13, .invokestatic 189, [1, 170, 1]), (16, .ireturn, [])]
set_option maxRecDepth 20000 in
def mC161 : mCodeT := mB161_0
def mM161 : mRec := (yX11_without, cX11_without, 2, (some .int), [], [], mC161)
-- LaneEyes.risk(I)I
set_option maxRecDepth 20000 in
def mB162_0 : mCodeT := [(0, .aload_n 0, []), (1, .iload_n 1, []), (2, .iconst 1, []), (3, .invokevirtual 116, [0, 165, 2, 9]), (6, .aload_n 0, []), (7, .getfield 39, [9, 7]), (10, .invokevirtual 357, [0, 86, 0, 7]), (13, .istore_n 2, []), (14, .iload_n 2, []), (15, .ifCond .ne 13, []), (18, .iload_n 1, []), (19, .ifCond .ne 7, []), (22, .iconst 0, []), (23, .goto 4, [])]
set_option maxRecDepth 20000 in
def mB162_26 : mCodeT := [(26, .iconst 1, [])]
set_option maxRecDepth 20000 in
def mB162_27 : mCodeT := [(27, .ireturn, [])]
set_option maxRecDepth 20000 in
def mB162_28 : mCodeT := [(28, .aload_n 0, []), (29, .getfield 39, [9, 7]), (32, .invokevirtual 150, [0, 80, 0, 7]), (35, .istore_n 3, []), (36, .iload_n 3, []), (37, .ifCond .ne 5, []), (40, .iconst 1, []), (41, .ireturn, [])]
set_option maxRecDepth 20000 in
def mB162_42 : mCodeT := [(42, .aload_n 0, []), (43, .getfield 39, [9, 7]), (46, .invokevirtual 360, [0, 103, 0, 7]), (49, .istore 4, []), (51, .iload_n 1, []), (52, .ifCond .ne 14, []), (55, .iload 4, []), (57, .iload_n 2, []), (58, .iload_n 3, []), (59, .imul, []), (60, .invokestatic 300, [1, 171, 2]), (63, .goto 11, [])]
set_option maxRecDepth 20000 in
def mB162_66 : mCodeT := [(66, .iload 4, []), (68, .iload_n 2, []), (69, .iload_n 3, []), (70, .imul, []), (71, .invokestatic 303, [1, 172, 2])]
set_option maxRecDepth 20000 in
def mB162_74 : mCodeT := [(74, .ireturn, [])]
set_option maxRecDepth 20000 in
def mC162 : mCodeT := mB162_0 ++ (mB162_26 ++ (mB162_27 ++ (mB162_28 ++ (mB162_42 ++ (mB162_66 ++ (mB162_74))))))
def mM162 : mRec := (yX11_risk, cX11_risk, 5, (some .int), [], [], mC162)
-- LaneEyes.image()V
set_option maxRecDepth 20000 in
def mB163_0 : mCodeT := [(0, .aload_n 0, []), (1, .getfield 56, [9, 10]), (4, .aload_n 0, []), (5, .getfield 52, [9, 9]), (8, .invokevirtual 113, [0, 2, 1, 0]), (11, .aload_n 0, []), (12, .iconst 1, []), (13, .putfield 59, [9, 11]), (16, .return_, [])]
set_option maxRecDepth 20000 in
def mC163 : mCodeT := mB163_0
def mM163 : mRec := (yX11_image, cX11_image, 1, none, [], [], mC163)
-- LaneEyes.restore()Z
set_option maxRecDepth 20000 in
def mB164_0 : mCodeT := [(0, .aload_n 0, []), (1, .getfield 59, [9, 11]), (4, .ifCond .ne 5, []), (7, .iconst 0, []), (8, .ireturn, [])]
set_option maxRecDepth 20000 in
def mB164_9 : mCodeT := [(9, .aload_n 0, []), (10, .getfield 52, [9, 9]), (13, .aload_n 0, []), (14, .getfield 56, [9, 10]), (17, .invokevirtual 113, [0, 2, 1, 0]), (20, .iconst 1, []), (21, .ireturn, [])]
set_option maxRecDepth 20000 in
def mC164 : mCodeT := mB164_0 ++ (mB164_9)
def mM164 : mRec := (yX11_restore, cX11_restore, 1, (some .boolean), [], [], mC164)
-- LaneEyes.wantWhat(II)V
set_option maxRecDepth 20000 in
def mB165_0 : mCodeT := [(0, .iload_n 1, []), (1, .ifCond .lt 8, []), (4, .iload_n 1, []), (5, .iload_n 2, []), (6, .if_icmp .le 14, [])]
set_option maxRecDepth 20000 in
def mB165_9 : mCodeT := [(9, .new 216, [777, 1, 220, 363, 1])]
set_option maxRecDepth 20000 in
def mB165_20 : mCodeT := [(20, .return_, [])]
set_option maxRecDepth 20000 in
def mC165 : mCodeT := mB165_0 ++ (mB165_9 ++ (mB165_20))
def mM165 : mRec := (yX11_wantWhat, cX11_wantWhat, 3, none, [], [], mC165)
-- LaneEyes.wantCell(I)V
set_option maxRecDepth 20000 in
def mB166_0 : mCodeT := [(0, .aload_n 0, []), (1, .getfield 47, [9, 8]), (4, .iload_n 1, []), (5, .invokevirtual 230, [0, 46, 1, 3]), (8, .ifCond .ne 14, []), (11, .new 216, [777, 1, 220, 365, 1])]
set_option maxRecDepth 20000 in
def mB166_22 : mCodeT := [(22, .return_, [])]
set_option maxRecDepth 20000 in
def mC166 : mCodeT := mB166_0 ++ (mB166_22)
def mM166 : mRec := (yX11_wantCell, cX11_wantCell, 2, none, [], [], mC166)
-- LaneEyes.wantLook(I)V
set_option maxRecDepth 20000 in
def mB167_0 : mCodeT := [(0, .aload_n 0, []), (1, .getfield 47, [9, 8]), (4, .iload_n 1, []), (5, .invokevirtual 238, [0, 47, 1, 3]), (8, .ifCond .ne 14, []), (11, .new 216, [777, 1, 220, 367, 1])]
set_option maxRecDepth 20000 in
def mB167_22 : mCodeT := [(22, .return_, [])]
set_option maxRecDepth 20000 in
def mC167 : mCodeT := mB167_0 ++ (mB167_22)
def mM167 : mRec := (yX11_wantLook, cX11_wantLook, 2, none, [], [], mC167)
-- LaneEyes.wantSwimmer(I)V
set_option maxRecDepth 20000 in
def mB168_0 : mCodeT := [(0, .iload_n 1, []), (1, .ifCond .lt 14, []), (4, .iload_n 1, []), (5, .aload_n 0, []), (6, .getfield 47, [9, 8]), (9, .getfield 126, [3, 4]), (12, .if_icmp .lt 14, [])]
set_option maxRecDepth 20000 in
def mB168_15 : mCodeT := [(15, .new 216, [777, 1, 220, 369, 1])]
set_option maxRecDepth 20000 in
def mB168_26 : mCodeT := [(26, .return_, [])]
set_option maxRecDepth 20000 in
def mC168 : mCodeT := mB168_0 ++ (mB168_15 ++ (mB168_26))
def mM168 : mRec := (yX11_wantSwimmer, cX11_wantSwimmer, 2, none, [], [], mC168)
-- LaneEyes.wantUpTo999(I)V
set_option maxRecDepth 20000 in
def mB169_0 : mCodeT := [(0, .iload_n 1, []), (1, .iconst 1, []), (2, .if_icmp .lt 10, []), (5, .iload_n 1, []), (6, .sipush 999, []), (9, .if_icmp .le 14, [])]
set_option maxRecDepth 20000 in
def mB169_12 : mCodeT := [(12, .new 88, [777, 0, 92, 371, 1])]
set_option maxRecDepth 20000 in
def mB169_23 : mCodeT := [(23, .return_, [])]
set_option maxRecDepth 20000 in
def mC169 : mCodeT := mB169_0 ++ (mB169_12 ++ (mB169_23))
def mM169 : mRec := (yX11_wantUpTo999, cX11_wantUpTo999, 2, none, [], [], mC169)
-- LaneEyes.orNone(I)I
set_option maxRecDepth 20000 in
def mB170_0 : mCodeT := [(0, .iload_n 0, []), (1, .ldc_w 373, [2147483647]), (4, .if_icmp .ne 7, []), (7, .iconst (-1), []), (8, .goto 4, [])]
set_option maxRecDepth 20000 in
def mB170_11 : mCodeT := [(11, .iload_n 0, [])]
set_option maxRecDepth 20000 in
def mB170_12 : mCodeT := [(12, .ireturn, [])]
set_option maxRecDepth 20000 in
def mC170 : mCodeT := mB170_0 ++ (mB170_11 ++ (mB170_12))
def mM170 : mRec := (yX11_orNone, cX11_orNone, 1, (some .int), [], [], mC170)
-- LaneEyes.upperPart(II)I
set_option maxRecDepth 20000 in
def mB171_0 : mCodeT := [(0, .iload_n 0, []), (1, .iload_n 1, []), (2, .invokestatic 374, [1, 173, 2]), (5, .istore_n 2, []), (6, .iload_n 1, []), (7, .ifCond .eq 7, []), (10, .iload_n 2, []), (11, .ifCond .ne 7, [])]
set_option maxRecDepth 20000 in
def mB171_14 : mCodeT := [(14, .iconst 0, []), (15, .goto 6, [])]
set_option maxRecDepth 20000 in
def mB171_18 : mCodeT := [(18, .iload_n 0, []), (19, .iload_n 2, []), (20, .idiv, [])]
set_option maxRecDepth 20000 in
def mB171_21 : mCodeT := [(21, .ireturn, [])]
set_option maxRecDepth 20000 in
def mC171 : mCodeT := mB171_0 ++ (mB171_14 ++ (mB171_18 ++ (mB171_21)))
def mM171 : mRec := (yX11_upperPart, cX11_upperPart, 3, (some .int), [], [], mC171)
-- LaneEyes.lowerPart(II)I
set_option maxRecDepth 20000 in
def mB172_0 : mCodeT := [(0, .iload_n 0, []), (1, .iload_n 1, []), (2, .invokestatic 374, [1, 173, 2]), (5, .istore_n 2, []), (6, .iload_n 1, []), (7, .ifCond .eq 7, []), (10, .iload_n 2, []), (11, .ifCond .ne 7, [])]
set_option maxRecDepth 20000 in
def mB172_14 : mCodeT := [(14, .iconst 1, []), (15, .goto 6, [])]
set_option maxRecDepth 20000 in
def mB172_18 : mCodeT := [(18, .iload_n 1, []), (19, .iload_n 2, []), (20, .idiv, [])]
set_option maxRecDepth 20000 in
def mB172_21 : mCodeT := [(21, .ireturn, [])]
set_option maxRecDepth 20000 in
def mC172 : mCodeT := mB172_0 ++ (mB172_14 ++ (mB172_18 ++ (mB172_21)))
def mM172 : mRec := (yX11_lowerPart, cX11_lowerPart, 3, (some .int), [], [], mC172)
-- LaneEyes.commonDivisor(II)I
set_option maxRecDepth 20000 in
def mB173_0 : mCodeT := [(0, .iload_n 0, []), (1, .istore_n 2, []), (2, .iload_n 1, []), (3, .istore_n 3, []), (4, .iconst 0, []), (5, .istore 4, [])]
set_option maxRecDepth 20000 in
def mB173_7 : mCodeT := [(7, .iload 4, []), (9, .bipush 64, []), (11, .if_icmp .ge 23, []), (14, .iload_n 3, []), (15, .ifCond .eq 19, []), (18, .iload_n 2, []), (19, .iload_n 3, []), (20, .irem, []), (21, .istore 5, []), (23, .iload_n 3, []), (24, .istore_n 2, []), (25, .iload 5, []), (27, .istore_n 3, []), (28, .iinc 4 1, []), (31, .goto (-24), [])]
set_option maxRecDepth 20000 in
def mB173_34 : mCodeT := [(34, .iload_n 2, []), (35, .ireturn, [])]
set_option maxRecDepth 20000 in
def mC173 : mCodeT := mB173_0 ++ (mB173_7 ++ (mB173_34))
def mM173 : mRec := (yX11_commonDivisor, cX11_commonDivisor, 6, (some .int), [], [], mC173)
-- LaneEyes.keptTo(III)I
set_option maxRecDepth 20000 in
def mB174_0 : mCodeT := [(0, .iload_n 1, []), (1, .iload_n 2, []), (2, .iload_n 0, []), (3, .invokestatic 377, [9011, 99999]), (6, .invokestatic 312, [9010, 99999]), (9, .ireturn, [])]
set_option maxRecDepth 20000 in
def mC174 : mCodeT := mB174_0
def mM174 : mRec := (yX11_keptTo, cX11_keptTo, 3, (some .int), [], [], mC174)
-- LaneEyesModel.<init>()V
set_option maxRecDepth 20000 in
def mB175_0 : mCodeT := [(0, .aload_n 0, []), (1, .invokespecial 1, [9002, 99999]), (4, .aload_n 0, []), (5, .bipush 8, []), (7, .putfield 7, [10, 1]), (10, .aload_n 0, []), (11, .iconst 5, []), (12, .putfield 13, [10, 2]), (15, .aload_n 0, []), (16, .bipush 60, []), (18, .putfield 16, [10, 5]), (21, .aload_n 0, []), (22, .bipush 20, []), (24, .putfield 19, [10, 6]), (27, .aload_n 0, []), (28, .iconst (-1), []), (29, .putfield 22, [10, 9]), (32, .aload_n 0, []), (33, .iconst (-1), []), (34, .putfield 25, [10, 10]), (37, .aload_n 0, []), (38, .bipush 40, []), (40, .newarray .int, [100]), (42, .putfield 28, [10, 11]), (45, .aload_n 0, []), (46, .bipush 40, []), (48, .newarray .int, [100]), (50, .putfield 32, [10, 12]), (53, .aload_n 0, []), (54, .bipush 12, []), (56, .newarray .int, [100]), (58, .putfield 35, [10, 13]), (61, .aload_n 0, []), (62, .bipush 50, []), (64, .newarray .int, [100]), (66, .putfield 38, [10, 14]), (69, .aload_n 0, []), (70, .iconst 4, []), (71, .newarray .int, [100]), (73, .putfield 41, [10, 15]), (76, .aload_n 0, []), (77, .sipush 4000, []), (80, .newarray .int, [100]), (82, .putfield 44, [10, 16]), (85, .aload_n 0, []), (86, .sipush 700, []), (89, .newarray .int, [100]), (91, .putfield 47, [10, 17]), (94, .aload_n 0, []), (95, .iconst (-1), []), (96, .putfield 50, [10, 20]), (99, .aload_n 0, []), (100, .iconst 3, []), (101, .newarray .int, [100]), (103, .putfield 53, [10, 21]), (106, .aload_n 0, []), (107, .bipush 40, []), (109, .newarray .int, [100]), (111, .putfield 56, [10, 49]), (114, .aload_n 0, []), (115, .bipush 40, []), (117, .newarray .int, [100]), (119, .putfield 59, [10, 50]), (122, .aload_n 0, []), (123, .bipush 12, []), (125, .newarray .int, [100]), (127, .putfield 62, [10, 51]), (130, .aload_n 0, []), (131, .bipush 12, []), (133, .newarray .int, [100]), (135, .putfield 65, [10, 52]), (138, .aload_n 0, []), (139, .bipush 12, []), (141, .newarray .int, [100]), (143, .putfield 68, [10, 53]), (146, .aload_n 0, []), (147, .bipush 12, []), (149, .newarray .int, [100]), (151, .putfield 71, [10, 54]), (154, .aload_n 0, []), (155, .bipush 50, []), (157, .newarray .int, [100]), (159, .putfield 74, [10, 55]), (162, .aload_n 0, []), (163, .iconst 4, []), (164, .newarray .int, [100]), (166, .putfield 77, [10, 56]), (169, .aload_n 0, []), (170, .sipush 4000, []), (173, .newarray .int, [100]), (175, .putfield 80, [10, 57]), (178, .aload_n 0, []), (179, .sipush 950, []), (182, .newarray .int, [100]), (184, .putfield 83, [10, 58]), (187, .aload_n 0, []), (188, .bipush 9, []), (190, .newarray .boolean, [102]), (192, .putfield 86, [10, 59]), (195, .aload_n 0, []), (196, .bipush 38, []), (198, .newarray .int, [100]), (200, .putfield 90, [10, 60]), (203, .aload_n 0, []), (204, .bipush 38, []), (206, .newarray .int, [100]), (208, .putfield 93, [10, 61]), (211, .aload_n 0, []), (212, .sipush 1520, []), (215, .newarray .int, [100]), (217, .putfield 96, [10, 62]), (220, .aload_n 0, []), (221, .bipush 10, []), (223, .newarray .int, [100]), (225, .putfield 99, [10, 64]), (228, .aload_n 0, []), (229, .sipush 950, []), (232, .newarray .int, [100]), (234, .putfield 102, [10, 65]), (237, .aload_n 0, []), (238, .sipush 210, []), (241, .newarray .int, [100]), (243, .putfield 105, [10, 67]), (246, .aload_n 0, []), (247, .sipush 210, []), (250, .newarray .int, [100]), (252, .putfield 108, [10, 68]), (255, .aload_n 0, []), (256, .sipush 450, []), (259, .newarray .int, [100]), (261, .putfield 111, [10, 69]), (264, .aload_n 0, []), (265, .iconst (-1), []), (266, .putfield 114, [10, 71]), (269, .aload_n 0, []), (270, .bipush 12, []), (272, .newarray .int, [100]), (274, .putfield 117, [10, 72]), (277, .aload_n 0, []), (278, .bipush 12, []), (280, .newarray .int, [100]), (282, .putfield 120, [10, 73]), (285, .aload_n 0, []), (286, .bipush 12, []), (288, .newarray .int, [100]), (290, .putfield 123, [10, 76]), (293, .aload_n 0, []), (294, .bipush 16, []), (296, .newarray .int, [100]), (298, .putfield 126, [10, 77]), (301, .aload_n 0, []), (302, .bipush 38, []), (304, .newarray .int, [100]), (306, .putfield 129, [10, 83]), (309, .aload_n 0, []), (310, .sipush 1520, []), (313, .newarray .int, [100]), (315, .putfield 132, [10, 84]), (318, .aload_n 0, []), (319, .bipush 12, []), (321, .newarray .int, [100]), (323, .putfield 135, [10, 85]), (326, .aload_n 0, []), (327, .bipush 16, []), (329, .newarray .int, [100]), (331, .putfield 138, [10, 86]), (334, .iconst 0, []), (335, .istore_n 1, [])]
set_option maxRecDepth 20000 in
def mB175_336 : mCodeT := [(336, .iload_n 1, []), (337, .bipush 40, []), (339, .if_icmp .ge 16, []), (342, .aload_n 0, []), (343, .getfield 28, [10, 11]), (346, .iload_n 1, []), (347, .iconst 3, []), (348, .iastore, []), (349, .iinc 1 1, []), (352, .goto (-16), [])]
set_option maxRecDepth 20000 in
def mB175_355 : mCodeT := [(355, .return_, [])]
set_option maxRecDepth 20000 in
def mC175_0 : mCodeT := mB175_0
set_option maxRecDepth 20000 in
def mC175_1 : mCodeT := mB175_336 ++ (mB175_355)
set_option maxRecDepth 20000 in
def mC175 : mCodeT := mC175_0 ++ (mC175_1)
def mM175 : mRec := (yX12_init, cX12_init, 2, none, [], [], mC175)
-- LaneEyesModel.thrown()I
set_option maxRecDepth 20000 in
def mB176_0 : mCodeT := [(0, .aload_n 0, []), (1, .getfield 141, [10, 0]), (4, .ireturn, [])]
set_option maxRecDepth 20000 in
def mC176 : mCodeT := mB176_0
def mM176 : mRec := (yX12_thrown, cX12_thrown, 1, (some .int), [], [], mC176)
-- LaneEyesModel.right(ZI)Z
set_option maxRecDepth 20000 in
def mB177_0 : mCodeT := [(0, .aload_n 0, []), (1, .getfield 141, [10, 0]), (4, .ifCond .ne 12, []), (7, .iload_n 1, []), (8, .ifCond .ne 8, []), (11, .aload_n 0, []), (12, .iload_n 2, []), (13, .putfield 141, [10, 0])]
set_option maxRecDepth 20000 in
def mB177_16 : mCodeT := [(16, .aload_n 0, []), (17, .getfield 141, [10, 0]), (20, .ifCond .ne 7, []), (23, .iconst 1, []), (24, .goto 4, [])]
set_option maxRecDepth 20000 in
def mB177_27 : mCodeT := [(27, .iconst 0, [])]
set_option maxRecDepth 20000 in
def mB177_28 : mCodeT := [(28, .ireturn, [])]
set_option maxRecDepth 20000 in
def mC177 : mCodeT := mB177_0 ++ (mB177_16 ++ (mB177_27 ++ (mB177_28)))
def mM177 : mRec := (yX12_right, cX12_right, 3, (some .boolean), [], [], mC177)
-- LaneEyesModel.within(III)Z
set_option maxRecDepth 20000 in
def mB178_0 : mCodeT := [(0, .iload_n 0, []), (1, .iload_n 1, []), (2, .if_icmp .lt 12, []), (5, .iload_n 0, []), (6, .iload_n 2, []), (7, .if_icmp .gt 7, []), (10, .iconst 1, []), (11, .goto 4, [])]
set_option maxRecDepth 20000 in
def mB178_14 : mCodeT := [(14, .iconst 0, [])]
set_option maxRecDepth 20000 in
def mB178_15 : mCodeT := [(15, .ireturn, [])]
set_option maxRecDepth 20000 in
def mC178 : mCodeT := mB178_0 ++ (mB178_14 ++ (mB178_15))
def mM178 : mRec := (yX12_within, cX12_within, 3, (some .boolean), [], [], mC178)
-- LaneEyesModel.off(II)I
set_option maxRecDepth 20000 in
def mB179_0 : mCodeT := [(0, .iload_n 0, []), (1, .iload_n 1, []), (2, .if_icmp .ge 9, []), (5, .iload_n 1, []), (6, .iload_n 0, []), (7, .isub, []), (8, .goto 6, [])]
set_option maxRecDepth 20000 in
def mB179_11 : mCodeT := [(11, .iload_n 0, []), (12, .iload_n 1, []), (13, .isub, [])]
set_option maxRecDepth 20000 in
def mB179_14 : mCodeT := [(14, .ireturn, [])]
set_option maxRecDepth 20000 in
def mC179 : mCodeT := mB179_0 ++ (mB179_11 ++ (mB179_14))
def mM179 : mRec := (yX12_off, cX12_off, 2, (some .int), [], [], mC179)
-- LaneEyesModel.copies([I[I)V
set_option maxRecDepth 20000 in
def mB180_0 : mCodeT := [(0, .iconst 0, []), (1, .istore_n 3, [])]
set_option maxRecDepth 20000 in
def mB180_2 : mCodeT := [(2, .iload_n 3, []), (3, .aload_n 1, []), (4, .arraylength, []), (5, .if_icmp .ge 15, []), (8, .aload_n 2, []), (9, .iload_n 3, []), (10, .aload_n 1, []), (11, .iload_n 3, []), (12, .iaload, []), (13, .iastore, []), (14, .iinc 3 1, []), (17, .goto (-15), [])]
set_option maxRecDepth 20000 in
def mB180_20 : mCodeT := [(20, .return_, [])]
set_option maxRecDepth 20000 in
def mC180 : mCodeT := mB180_0 ++ (mB180_2 ++ (mB180_20))
def mM180 : mRec := (yX12_copies, cX12_copies, 4, none, [], [], mC180)
-- LaneEyesModel.bits(I)I
set_option maxRecDepth 20000 in
def mB181_0 : mCodeT := [(0, .iconst 0, []), (1, .istore_n 1, []), (2, .iconst 0, []), (3, .istore_n 2, [])]
set_option maxRecDepth 20000 in
def mB181_4 : mCodeT := [(4, .iload_n 2, []), (5, .bipush 12, []), (7, .if_icmp .ge 17, []), (10, .iload_n 1, []), (11, .iload_n 0, []), (12, .iload_n 2, []), (13, .ishr, []), (14, .iconst 1, []), (15, .iand, []), (16, .iadd, []), (17, .istore_n 1, []), (18, .iinc 2 1, []), (21, .goto (-17), [])]
set_option maxRecDepth 20000 in
def mB181_24 : mCodeT := [(24, .iload_n 1, []), (25, .ireturn, [])]
set_option maxRecDepth 20000 in
def mC181 : mCodeT := mB181_0 ++ (mB181_4 ++ (mB181_24))
def mM181 : mRec := (yX12_bits, cX12_bits, 3, (some .int), [], [], mC181)
-- LaneEyesModel.feed(IIIII)I
set_option maxRecDepth 20000 in
def mB182_0 : mCodeT := [(0, .aload_n 0, []), (1, .iconst 0, []), (2, .putfield 141, [10, 0]), (5, .aload_n 0, []), (6, .getfield 144, [10, 18]), (9, .bipush 20, []), (11, .iadd, []), (12, .sipush 700, []), (15, .if_icmp .le 5, []), (18, .iconst (-1), []), (19, .ireturn, [])]
set_option maxRecDepth 20000 in
def mB182_20 : mCodeT := [(20, .aload_n 0, []), (21, .iload_n 1, []), (22, .invokevirtual 147, [0, 183, 1, 10]), (25, .aload_n 0, []), (26, .iload_n 2, []), (27, .invokevirtual 147, [0, 183, 1, 10]), (30, .aload_n 0, []), (31, .iload_n 3, []), (32, .invokevirtual 147, [0, 183, 1, 10]), (35, .aload_n 0, []), (36, .iload 4, []), (38, .invokevirtual 147, [0, 183, 1, 10]), (41, .aload_n 0, []), (42, .iload 5, []), (44, .invokevirtual 147, [0, 183, 1, 10]), (47, .aload_n 0, []), (48, .getfield 144, [10, 18]), (51, .ireturn, [])]
set_option maxRecDepth 20000 in
def mC182 : mCodeT := mB182_0 ++ (mB182_20)
def mM182 : mRec := (yX12_feed, cX12_feed, 6, (some .int), [], [], mC182)
-- LaneEyesModel.lays(I)V
set_option maxRecDepth 20000 in
def mB183_0 : mCodeT := [(0, .bipush 24, []), (2, .istore_n 2, [])]
set_option maxRecDepth 20000 in
def mB183_3 : mCodeT := [(3, .iload_n 2, []), (4, .ifCond .lt 35, []), (7, .aload_n 0, []), (8, .getfield 47, [10, 17]), (11, .aload_n 0, []), (12, .getfield 144, [10, 18]), (15, .iload_n 1, []), (16, .iload_n 2, []), (17, .ishr, []), (18, .sipush 255, []), (21, .iand, []), (22, .iastore, []), (23, .aload_n 0, []), (24, .dup, []), (25, .getfield 144, [10, 18]), (28, .iconst 1, []), (29, .iadd, []), (30, .putfield 144, [10, 18]), (33, .iinc 2 (-8), []), (36, .goto (-33), [])]
set_option maxRecDepth 20000 in
def mB183_39 : mCodeT := [(39, .return_, [])]
set_option maxRecDepth 20000 in
def mC183 : mCodeT := mB183_0 ++ (mB183_3 ++ (mB183_39))
def mM183 : mRec := (yX12_lays, cX12_lays, 3, none, [], [], mC183)
-- LaneEyesModel.byteAt(I)I
set_option maxRecDepth 20000 in
def mB184_0 : mCodeT := [(0, .iload_n 1, []), (1, .aload_n 0, []), (2, .getfield 151, [10, 22]), (5, .if_icmp .ge 12, []), (8, .aload_n 0, []), (9, .getfield 47, [10, 17]), (12, .iload_n 1, []), (13, .iaload, []), (14, .goto 4, [])]
set_option maxRecDepth 20000 in
def mB184_17 : mCodeT := [(17, .iconst 0, [])]
set_option maxRecDepth 20000 in
def mB184_18 : mCodeT := [(18, .ireturn, [])]
set_option maxRecDepth 20000 in
def mC184 : mCodeT := mB184_0 ++ (mB184_17 ++ (mB184_18))
def mM184 : mRec := (yX12_byteAt, cX12_byteAt, 2, (some .int), [], [], mC184)
-- LaneEyesModel.isLetter(I)Z
set_option maxRecDepth 20000 in
def mB185_0 : mCodeT := [(0, .iload_n 0, []), (1, .bipush 97, []), (3, .if_icmp .lt 13, []), (6, .iload_n 0, []), (7, .bipush 122, []), (9, .if_icmp .gt 7, []), (12, .iconst 1, []), (13, .goto 4, [])]
set_option maxRecDepth 20000 in
def mB185_16 : mCodeT := [(16, .iconst 0, [])]
set_option maxRecDepth 20000 in
def mB185_17 : mCodeT := [(17, .ireturn, [])]
set_option maxRecDepth 20000 in
def mC185 : mCodeT := mB185_0 ++ (mB185_16 ++ (mB185_17))
def mM185 : mRec := (yX12_isLetter, cX12_isLetter, 1, (some .boolean), [], [], mC185)
-- LaneEyesModel.isDigit(I)Z
set_option maxRecDepth 20000 in
def mB186_0 : mCodeT := [(0, .iload_n 0, []), (1, .bipush 48, []), (3, .if_icmp .lt 13, []), (6, .iload_n 0, []), (7, .bipush 57, []), (9, .if_icmp .gt 7, []), (12, .iconst 1, []), (13, .goto 4, [])]
set_option maxRecDepth 20000 in
def mB186_16 : mCodeT := [(16, .iconst 0, [])]
set_option maxRecDepth 20000 in
def mB186_17 : mCodeT := [(17, .ireturn, [])]
set_option maxRecDepth 20000 in
def mC186 : mCodeT := mB186_0 ++ (mB186_16 ++ (mB186_17))
def mM186 : mRec := (yX12_isDigit, cX12_isDigit, 1, (some .boolean), [], [], mC186)
-- LaneEyesModel.goes()V
set_option maxRecDepth 20000 in
def mB187_0 : mCodeT := [(0, .aload_n 0, []), (1, .getfield 154, [10, 23]), (4, .aload_n 0, []), (5, .getfield 151, [10, 22]), (8, .if_icmp .ge 42, []), (11, .aload_n 0, []), (12, .aload_n 0, []), (13, .getfield 154, [10, 23]), (16, .invokevirtual 157, [0, 184, 1, 10]), (19, .bipush 32, []), (21, .if_icmp .eq 16, []), (24, .aload_n 0, []), (25, .aload_n 0, []), (26, .getfield 154, [10, 23]), (29, .invokevirtual 157, [0, 184, 1, 10]), (32, .bipush 10, []), (34, .if_icmp .ne 16, [])]
set_option maxRecDepth 20000 in
def mB187_37 : mCodeT := [(37, .aload_n 0, []), (38, .dup, []), (39, .getfield 154, [10, 23]), (42, .iconst 1, []), (43, .iadd, []), (44, .putfield 154, [10, 23]), (47, .goto (-47), [])]
set_option maxRecDepth 20000 in
def mB187_50 : mCodeT := [(50, .aload_n 0, []), (51, .aload_n 0, []), (52, .getfield 154, [10, 23]), (55, .putfield 161, [10, 25]), (58, .aload_n 0, []), (59, .lconst 0, []), (60, .putfield 164, [10, 29]), (63, .aload_n 0, []), (64, .iconst 0, []), (65, .putfield 168, [10, 27]), (68, .aload_n 0, []), (69, .aload_n 0, []), (70, .getfield 154, [10, 23]), (73, .invokevirtual 157, [0, 184, 1, 10]), (76, .istore_n 1, []), (77, .aload_n 0, []), (78, .iload_n 1, []), (79, .putfield 171, [10, 28]), (82, .aload_n 0, []), (83, .getfield 154, [10, 23]), (86, .aload_n 0, []), (87, .getfield 151, [10, 22]), (90, .if_icmp .lt 11, []), (93, .aload_n 0, []), (94, .iconst 0, []), (95, .putfield 174, [10, 24]), (98, .goto 233, [])]
set_option maxRecDepth 20000 in
def mB187_101 : mCodeT := [(101, .iload_n 1, []), (102, .invokestatic 177, [1, 185, 1]), (105, .ifCond .eq 75, [])]
set_option maxRecDepth 20000 in
def mB187_108 : mCodeT := [(108, .aload_n 0, []), (109, .aload_n 0, []), (110, .getfield 154, [10, 23]), (113, .invokevirtual 157, [0, 184, 1, 10]), (116, .invokestatic 177, [1, 185, 1]), (119, .ifCond .eq 53, []), (122, .aload_n 0, []), (123, .getfield 154, [10, 23]), (126, .aload_n 0, []), (127, .getfield 161, [10, 25]), (130, .isub, []), (131, .bipush 7, []), (133, .if_icmp .ge 26, []), (136, .aload_n 0, []), (137, .aload_n 0, []), (138, .getfield 164, [10, 29]), (141, .iconst 5, []), (142, .lshl, []), (143, .aload_n 0, []), (144, .aload_n 0, []), (145, .getfield 154, [10, 23]), (148, .invokevirtual 157, [0, 184, 1, 10]), (151, .bipush 96, []), (153, .isub, []), (154, .i2l, []), (155, .lor, []), (156, .putfield 164, [10, 29])]
set_option maxRecDepth 20000 in
def mB187_159 : mCodeT := [(159, .aload_n 0, []), (160, .dup, []), (161, .getfield 154, [10, 23]), (164, .iconst 1, []), (165, .iadd, []), (166, .putfield 154, [10, 23]), (169, .goto (-61), [])]
set_option maxRecDepth 20000 in
def mB187_172 : mCodeT := [(172, .aload_n 0, []), (173, .iconst 1, []), (174, .putfield 174, [10, 24]), (177, .goto 154, [])]
set_option maxRecDepth 20000 in
def mB187_180 : mCodeT := [(180, .iload_n 1, []), (181, .invokestatic 181, [1, 186, 1]), (184, .ifCond .eq 74, [])]
set_option maxRecDepth 20000 in
def mB187_187 : mCodeT := [(187, .aload_n 0, []), (188, .aload_n 0, []), (189, .getfield 154, [10, 23]), (192, .invokevirtual 157, [0, 184, 1, 10]), (195, .invokestatic 181, [1, 186, 1]), (198, .ifCond .eq 52, []), (201, .aload_n 0, []), (202, .getfield 154, [10, 23]), (205, .aload_n 0, []), (206, .getfield 161, [10, 25]), (209, .isub, []), (210, .iconst 4, []), (211, .if_icmp .ge 26, []), (214, .aload_n 0, []), (215, .bipush 10, []), (217, .aload_n 0, []), (218, .getfield 168, [10, 27]), (221, .imul, []), (222, .aload_n 0, []), (223, .aload_n 0, []), (224, .getfield 154, [10, 23]), (227, .invokevirtual 157, [0, 184, 1, 10]), (230, .iadd, []), (231, .bipush 48, []), (233, .isub, []), (234, .putfield 168, [10, 27])]
set_option maxRecDepth 20000 in
def mB187_237 : mCodeT := [(237, .aload_n 0, []), (238, .dup, []), (239, .getfield 154, [10, 23]), (242, .iconst 1, []), (243, .iadd, []), (244, .putfield 154, [10, 23]), (247, .goto (-60), [])]
set_option maxRecDepth 20000 in
def mB187_250 : mCodeT := [(250, .aload_n 0, []), (251, .iconst 2, []), (252, .putfield 174, [10, 24]), (255, .goto 76, [])]
set_option maxRecDepth 20000 in
def mB187_258 : mCodeT := [(258, .aload_n 0, []), (259, .dup, []), (260, .getfield 154, [10, 23]), (263, .iconst 1, []), (264, .iadd, []), (265, .putfield 154, [10, 23]), (268, .aload_n 0, []), (269, .iload_n 1, []), (270, .bipush 59, []), (272, .if_icmp .eq 51, []), (275, .iload_n 1, []), (276, .bipush 40, []), (278, .if_icmp .eq 45, []), (281, .iload_n 1, []), (282, .bipush 41, []), (284, .if_icmp .eq 39, []), (287, .iload_n 1, []), (288, .bipush 43, []), (290, .if_icmp .eq 33, []), (293, .iload_n 1, []), (294, .bipush 45, []), (296, .if_icmp .eq 27, []), (299, .iload_n 1, []), (300, .bipush 42, []), (302, .if_icmp .eq 21, []), (305, .iload_n 1, []), (306, .bipush 47, []), (308, .if_icmp .eq 15, []), (311, .iload_n 1, []), (312, .bipush 60, []), (314, .if_icmp .eq 9, []), (317, .iload_n 1, []), (318, .bipush 61, []), (320, .if_icmp .ne 7, [])]
set_option maxRecDepth 20000 in
def mB187_323 : mCodeT := [(323, .iconst 3, []), (324, .goto 4, [])]
set_option maxRecDepth 20000 in
def mB187_327 : mCodeT := [(327, .iconst 4, [])]
set_option maxRecDepth 20000 in
def mB187_328 : mCodeT := [(328, .putfield 174, [10, 24])]
set_option maxRecDepth 20000 in
def mB187_331 : mCodeT := [(331, .aload_n 0, []), (332, .aload_n 0, []), (333, .getfield 154, [10, 23]), (336, .aload_n 0, []), (337, .getfield 161, [10, 25]), (340, .isub, []), (341, .putfield 184, [10, 26]), (344, .return_, [])]
set_option maxRecDepth 20000 in
def mC187_0 : mCodeT := mB187_0 ++ (mB187_37)
set_option maxRecDepth 20000 in
def mC187_1 : mCodeT := mB187_50 ++ (mB187_101)
set_option maxRecDepth 20000 in
def mC187_2 : mCodeT := mB187_108 ++ (mB187_159 ++ (mB187_172 ++ (mB187_180)))
set_option maxRecDepth 20000 in
def mC187_3 : mCodeT := mB187_187 ++ (mB187_237 ++ (mB187_250))
set_option maxRecDepth 20000 in
def mC187_4 : mCodeT := mB187_258 ++ (mB187_323 ++ (mB187_327 ++ (mB187_328 ++ (mB187_331))))
set_option maxRecDepth 20000 in
def mC187 : mCodeT := mC187_0 ++ (mC187_1 ++ (mC187_2 ++ (mC187_3 ++ (mC187_4))))
def mM187 : mRec := (yX12_goes, cX12_goes, 2, none, [], [], mC187)
-- LaneEyesModel.spelled(IIIIIII)J
set_option maxRecDepth 20000 in
def mB188_0 : mCodeT := [(0, .iload_n 0, []), (1, .i2l, []), (2, .ldc2_w 187, [96]), (5, .lsub, []), (6, .iconst 5, []), (7, .lshl, []), (8, .iload_n 1, []), (9, .bipush 96, []), (11, .isub, []), (12, .i2l, []), (13, .lor, []), (14, .lstore 7, []), (16, .iload_n 2, []), (17, .ifCond .eq 15, []), (20, .lload 7, []), (22, .iconst 5, []), (23, .lshl, []), (24, .iload_n 2, []), (25, .bipush 96, []), (27, .isub, []), (28, .i2l, []), (29, .lor, []), (30, .lstore 7, [])]
set_option maxRecDepth 20000 in
def mB188_32 : mCodeT := [(32, .iload_n 3, []), (33, .ifCond .eq 15, []), (36, .lload 7, []), (38, .iconst 5, []), (39, .lshl, []), (40, .iload_n 3, []), (41, .bipush 96, []), (43, .isub, []), (44, .i2l, []), (45, .lor, []), (46, .lstore 7, [])]
set_option maxRecDepth 20000 in
def mB188_48 : mCodeT := [(48, .iload 4, []), (50, .ifCond .eq 16, []), (53, .lload 7, []), (55, .iconst 5, []), (56, .lshl, []), (57, .iload 4, []), (59, .bipush 96, []), (61, .isub, []), (62, .i2l, []), (63, .lor, []), (64, .lstore 7, [])]
set_option maxRecDepth 20000 in
def mB188_66 : mCodeT := [(66, .iload 5, []), (68, .ifCond .eq 16, []), (71, .lload 7, []), (73, .iconst 5, []), (74, .lshl, []), (75, .iload 5, []), (77, .bipush 96, []), (79, .isub, []), (80, .i2l, []), (81, .lor, []), (82, .lstore 7, [])]
set_option maxRecDepth 20000 in
def mB188_84 : mCodeT := [(84, .iload 6, []), (86, .ifCond .eq 16, []), (89, .lload 7, []), (91, .iconst 5, []), (92, .lshl, []), (93, .iload 6, []), (95, .bipush 96, []), (97, .isub, []), (98, .i2l, []), (99, .lor, []), (100, .lstore 7, [])]
set_option maxRecDepth 20000 in
def mB188_102 : mCodeT := [(102, .lload 7, []), (104, .lreturn, [])]
set_option maxRecDepth 20000 in
def mC188 : mCodeT := mB188_0 ++ (mB188_32 ++ (mB188_48 ++ (mB188_66 ++ (mB188_84 ++ (mB188_102)))))
def mM188 : mRec := (yX12_spelled, cX12_spelled, 9, (some .long), [], [], mC188)
-- LaneEyesModel.letters(I)J
set_option maxRecDepth 20000 in
def mB189_0 : mCodeT := [(0, .iload_n 0, []), (1, .tableswitch 484 0 23 #[111, 127, 143, 159, 173, 189, 205, 220, 236, 252, 270, 285, 300, 318, 334, 349, 364, 379, 394, 412, 426, 442, 457, 471], [])]
set_option maxRecDepth 20000 in
def mB189_112 : mCodeT := [(112, .bipush 116, []), (114, .bipush 105, []), (116, .bipush 114, []), (118, .bipush 101, []), (120, .bipush 100, []), (122, .iconst 0, []), (123, .iconst 0, []), (124, .invokestatic 189, [1, 188, 7]), (127, .lreturn, [])]
set_option maxRecDepth 20000 in
def mB189_128 : mCodeT := [(128, .bipush 100, []), (130, .bipush 101, []), (132, .bipush 112, []), (134, .bipush 116, []), (136, .bipush 104, []), (138, .iconst 0, []), (139, .iconst 0, []), (140, .invokestatic 189, [1, 188, 7]), (143, .lreturn, [])]
set_option maxRecDepth 20000 in
def mB189_144 : mCodeT := [(144, .bipush 103, []), (146, .bipush 108, []), (148, .bipush 97, []), (150, .bipush 114, []), (152, .bipush 101, []), (154, .iconst 0, []), (155, .iconst 0, []), (156, .invokestatic 189, [1, 188, 7]), (159, .lreturn, [])]
set_option maxRecDepth 20000 in
def mB189_160 : mCodeT := [(160, .bipush 102, []), (162, .bipush 97, []), (164, .bipush 114, []), (166, .iconst 0, []), (167, .iconst 0, []), (168, .iconst 0, []), (169, .iconst 0, []), (170, .invokestatic 189, [1, 188, 7]), (173, .lreturn, [])]
set_option maxRecDepth 20000 in
def mB189_174 : mCodeT := [(174, .bipush 99, []), (176, .bipush 114, []), (178, .bipush 111, []), (180, .bipush 119, []), (182, .bipush 100, []), (184, .iconst 0, []), (185, .iconst 0, []), (186, .invokestatic 189, [1, 188, 7]), (189, .lreturn, [])]
set_option maxRecDepth 20000 in
def mB189_190 : mCodeT := [(190, .bipush 115, []), (192, .bipush 107, []), (194, .bipush 105, []), (196, .bipush 108, []), (198, .bipush 108, []), (200, .iconst 0, []), (201, .iconst 0, []), (202, .invokestatic 189, [1, 188, 7]), (205, .lreturn, [])]
set_option maxRecDepth 20000 in
def mB189_206 : mCodeT := [(206, .bipush 108, []), (208, .bipush 101, []), (210, .bipush 103, []), (212, .bipush 115, []), (214, .iconst 0, []), (215, .iconst 0, []), (216, .iconst 0, []), (217, .invokestatic 189, [1, 188, 7]), (220, .lreturn, [])]
set_option maxRecDepth 20000 in
def mB189_221 : mCodeT := [(221, .bipush 109, []), (223, .bipush 111, []), (225, .bipush 117, []), (227, .bipush 116, []), (229, .bipush 104, []), (231, .iconst 0, []), (232, .iconst 0, []), (233, .invokestatic 189, [1, 188, 7]), (236, .lreturn, [])]
set_option maxRecDepth 20000 in
def mB189_237 : mCodeT := [(237, .bipush 119, []), (239, .bipush 97, []), (241, .bipush 118, []), (243, .bipush 101, []), (245, .bipush 115, []), (247, .iconst 0, []), (248, .iconst 0, []), (249, .invokestatic 189, [1, 188, 7]), (252, .lreturn, [])]
set_option maxRecDepth 20000 in
def mB189_253 : mCodeT := [(253, .bipush 115, []), (255, .bipush 99, []), (257, .bipush 114, []), (259, .bipush 101, []), (261, .bipush 97, []), (263, .bipush 109, []), (265, .bipush 115, []), (267, .invokestatic 189, [1, 188, 7]), (270, .lreturn, [])]
set_option maxRecDepth 20000 in
def mB189_271 : mCodeT := [(271, .bipush 112, []), (273, .bipush 111, []), (275, .bipush 111, []), (277, .bipush 108, []), (279, .iconst 0, []), (280, .iconst 0, []), (281, .iconst 0, []), (282, .invokestatic 189, [1, 188, 7]), (285, .lreturn, [])]
set_option maxRecDepth 20000 in
def mB189_286 : mCodeT := [(286, .bipush 100, []), (288, .bipush 101, []), (290, .bipush 101, []), (292, .bipush 112, []), (294, .iconst 0, []), (295, .iconst 0, []), (296, .iconst 0, []), (297, .invokestatic 189, [1, 188, 7]), (300, .lreturn, [])]
set_option maxRecDepth 20000 in
def mB189_301 : mCodeT := [(301, .bipush 115, []), (303, .bipush 119, []), (305, .bipush 105, []), (307, .bipush 109, []), (309, .bipush 109, []), (311, .bipush 101, []), (313, .bipush 114, []), (315, .invokestatic 189, [1, 188, 7]), (318, .lreturn, [])]
set_option maxRecDepth 20000 in
def mB189_319 : mCodeT := [(319, .bipush 99, []), (321, .bipush 104, []), (323, .bipush 97, []), (325, .bipush 105, []), (327, .bipush 114, []), (329, .iconst 0, []), (330, .iconst 0, []), (331, .invokestatic 189, [1, 188, 7]), (334, .lreturn, [])]
set_option maxRecDepth 20000 in
def mB189_335 : mCodeT := [(335, .bipush 108, []), (337, .bipush 111, []), (339, .bipush 111, []), (341, .bipush 107, []), (343, .iconst 0, []), (344, .iconst 0, []), (345, .iconst 0, []), (346, .invokestatic 189, [1, 188, 7]), (349, .lreturn, [])]
set_option maxRecDepth 20000 in
def mB189_350 : mCodeT := [(350, .bipush 108, []), (352, .bipush 97, []), (354, .bipush 115, []), (356, .bipush 116, []), (358, .iconst 0, []), (359, .iconst 0, []), (360, .iconst 0, []), (361, .invokestatic 189, [1, 188, 7]), (364, .lreturn, [])]
set_option maxRecDepth 20000 in
def mB189_365 : mCodeT := [(365, .bipush 116, []), (367, .bipush 105, []), (369, .bipush 114, []), (371, .bipush 101, []), (373, .iconst 0, []), (374, .iconst 0, []), (375, .iconst 0, []), (376, .invokestatic 189, [1, 188, 7]), (379, .lreturn, [])]
set_option maxRecDepth 20000 in
def mB189_380 : mCodeT := [(380, .bipush 99, []), (382, .bipush 97, []), (384, .bipush 115, []), (386, .bipush 101, []), (388, .iconst 0, []), (389, .iconst 0, []), (390, .iconst 0, []), (391, .invokestatic 189, [1, 188, 7]), (394, .lreturn, [])]
set_option maxRecDepth 20000 in
def mB189_395 : mCodeT := [(395, .bipush 116, []), (397, .bipush 114, []), (399, .bipush 111, []), (401, .bipush 117, []), (403, .bipush 98, []), (405, .bipush 108, []), (407, .bipush 101, []), (409, .invokestatic 189, [1, 188, 7]), (412, .lreturn, [])]
set_option maxRecDepth 20000 in
def mB189_413 : mCodeT := [(413, .bipush 102, []), (415, .bipush 117, []), (417, .bipush 110, []), (419, .iconst 0, []), (420, .iconst 0, []), (421, .iconst 0, []), (422, .iconst 0, []), (423, .invokestatic 189, [1, 188, 7]), (426, .lreturn, [])]
set_option maxRecDepth 20000 in
def mB189_427 : mCodeT := [(427, .bipush 110, []), (429, .bipush 101, []), (431, .bipush 101, []), (433, .bipush 100, []), (435, .bipush 115, []), (437, .iconst 0, []), (438, .iconst 0, []), (439, .invokestatic 189, [1, 188, 7]), (442, .lreturn, [])]
set_option maxRecDepth 20000 in
def mB189_443 : mCodeT := [(443, .bipush 103, []), (445, .bipush 97, []), (447, .bipush 109, []), (449, .bipush 101, []), (451, .iconst 0, []), (452, .iconst 0, []), (453, .iconst 0, []), (454, .invokestatic 189, [1, 188, 7]), (457, .lreturn, [])]
set_option maxRecDepth 20000 in
def mB189_458 : mCodeT := [(458, .bipush 97, []), (460, .bipush 110, []), (462, .bipush 100, []), (464, .iconst 0, []), (465, .iconst 0, []), (466, .iconst 0, []), (467, .iconst 0, []), (468, .invokestatic 189, [1, 188, 7]), (471, .lreturn, [])]
set_option maxRecDepth 20000 in
def mB189_472 : mCodeT := [(472, .bipush 111, []), (474, .bipush 114, []), (476, .iconst 0, []), (477, .iconst 0, []), (478, .iconst 0, []), (479, .iconst 0, []), (480, .iconst 0, []), (481, .invokestatic 189, [1, 188, 7]), (484, .lreturn, [])]
set_option maxRecDepth 20000 in
def mB189_485 : mCodeT := [(485, .bipush 110, []), (487, .bipush 111, []), (489, .bipush 116, []), (491, .iconst 0, []), (492, .iconst 0, []), (493, .iconst 0, []), (494, .iconst 0, []), (495, .invokestatic 189, [1, 188, 7]), (498, .lreturn, [])]
set_option maxRecDepth 20000 in
def mC189_0 : mCodeT := mB189_0 ++ (mB189_112 ++ (mB189_128 ++ (mB189_144 ++ (mB189_160 ++ (mB189_174)))))
set_option maxRecDepth 20000 in
def mC189_1 : mCodeT := mB189_190 ++ (mB189_206 ++ (mB189_221 ++ (mB189_237 ++ (mB189_253))))
set_option maxRecDepth 20000 in
def mC189_2 : mCodeT := mB189_271 ++ (mB189_286 ++ (mB189_301 ++ (mB189_319 ++ (mB189_335))))
set_option maxRecDepth 20000 in
def mC189_3 : mCodeT := mB189_350 ++ (mB189_365 ++ (mB189_380 ++ (mB189_395 ++ (mB189_413))))
set_option maxRecDepth 20000 in
def mC189_4 : mCodeT := mB189_427 ++ (mB189_443 ++ (mB189_458 ++ (mB189_472 ++ (mB189_485))))
set_option maxRecDepth 20000 in
def mC189 : mCodeT := mC189_0 ++ (mC189_1 ++ (mC189_2 ++ (mC189_3 ++ (mC189_4))))
def mM189 : mRec := (yX12_letters, cX12_letters, 1, (some .long), [], [], mC189)
-- LaneEyesModel.knownWord()I
set_option maxRecDepth 20000 in
def mB190_0 : mCodeT := [(0, .aload_n 0, []), (1, .getfield 174, [10, 24]), (4, .iconst 1, []), (5, .if_icmp .ne 12, []), (8, .aload_n 0, []), (9, .getfield 184, [10, 26]), (12, .bipush 7, []), (14, .if_icmp .le 5, [])]
set_option maxRecDepth 20000 in
def mB190_17 : mCodeT := [(17, .iconst (-1), []), (18, .ireturn, [])]
set_option maxRecDepth 20000 in
def mB190_19 : mCodeT := [(19, .iconst 0, []), (20, .istore_n 1, [])]
set_option maxRecDepth 20000 in
def mB190_21 : mCodeT := [(21, .iload_n 1, []), (22, .bipush 25, []), (24, .if_icmp .ge 23, []), (27, .iload_n 1, []), (28, .invokestatic 193, [1, 189, 1]), (31, .aload_n 0, []), (32, .getfield 164, [10, 29]), (35, .lcmp, []), (36, .ifCond .ne 5, []), (39, .iload_n 1, []), (40, .ireturn, [])]
set_option maxRecDepth 20000 in
def mB190_41 : mCodeT := [(41, .iinc 1 1, []), (44, .goto (-23), [])]
set_option maxRecDepth 20000 in
def mB190_47 : mCodeT := [(47, .iconst (-1), []), (48, .ireturn, [])]
set_option maxRecDepth 20000 in
def mC190 : mCodeT := mB190_0 ++ (mB190_17 ++ (mB190_19 ++ (mB190_21 ++ (mB190_41 ++ (mB190_47)))))
def mM190 : mRec := (yX12_knownWord, cX12_knownWord, 2, (some .int), [], [], mC190)
-- LaneEyesModel.wrong(I)V
set_option maxRecDepth 20000 in
def mB191_0 : mCodeT := [(0, .aload_n 0, []), (1, .getfield 197, [10, 19]), (4, .ifCond .eq 4, []), (7, .return_, [])]
set_option maxRecDepth 20000 in
def mB191_8 : mCodeT := [(8, .aload_n 0, []), (9, .iload_n 1, []), (10, .putfield 197, [10, 19]), (13, .aload_n 0, []), (14, .aload_n 0, []), (15, .getfield 161, [10, 25]), (18, .putfield 50, [10, 20]), (21, .return_, [])]
set_option maxRecDepth 20000 in
def mC191 : mCodeT := mB191_0 ++ (mB191_8)
def mM191 : mRec := (yX12_wrong, cX12_wrong, 2, none, [], [], mC191)
-- LaneEyesModel.isGood()Z
set_option maxRecDepth 20000 in
def mB192_0 : mCodeT := [(0, .aload_n 0, []), (1, .getfield 197, [10, 19]), (4, .ifCond .ne 7, []), (7, .iconst 1, []), (8, .goto 4, [])]
set_option maxRecDepth 20000 in
def mB192_11 : mCodeT := [(11, .iconst 0, [])]
set_option maxRecDepth 20000 in
def mB192_12 : mCodeT := [(12, .ireturn, [])]
set_option maxRecDepth 20000 in
def mC192 : mCodeT := mB192_0 ++ (mB192_11 ++ (mB192_12))
def mM192 : mRec := (yX12_isGood, cX12_isGood, 1, (some .boolean), [], [], mC192)
-- LaneEyesModel.isSign(I)Z
set_option maxRecDepth 20000 in
def mB193_0 : mCodeT := [(0, .aload_n 0, []), (1, .getfield 174, [10, 24]), (4, .iconst 3, []), (5, .if_icmp .ne 15, []), (8, .aload_n 0, []), (9, .getfield 171, [10, 28]), (12, .iload_n 1, []), (13, .if_icmp .ne 7, []), (16, .iconst 1, []), (17, .goto 4, [])]
set_option maxRecDepth 20000 in
def mB193_20 : mCodeT := [(20, .iconst 0, [])]
set_option maxRecDepth 20000 in
def mB193_21 : mCodeT := [(21, .ireturn, [])]
set_option maxRecDepth 20000 in
def mC193 : mCodeT := mB193_0 ++ (mB193_20 ++ (mB193_21))
def mM193 : mRec := (yX12_isSign, cX12_isSign, 2, (some .boolean), [], [], mC193)
-- LaneEyesModel.need(Z)V
set_option maxRecDepth 20000 in
def mB194_0 : mCodeT := [(0, .aload_n 0, []), (1, .invokevirtual 200, [0, 192, 0, 10]), (4, .ifCond .ne 4, []), (7, .return_, [])]
set_option maxRecDepth 20000 in
def mB194_8 : mCodeT := [(8, .iload_n 1, []), (9, .ifCond .eq 10, []), (12, .aload_n 0, []), (13, .invokevirtual 204, [0, 187, 0, 10]), (16, .goto 8, [])]
set_option maxRecDepth 20000 in
def mB194_19 : mCodeT := [(19, .aload_n 0, []), (20, .iconst 1, []), (21, .invokevirtual 207, [0, 191, 1, 10])]
set_option maxRecDepth 20000 in
def mB194_24 : mCodeT := [(24, .return_, [])]
set_option maxRecDepth 20000 in
def mC194 : mCodeT := mB194_0 ++ (mB194_8 ++ (mB194_19 ++ (mB194_24)))
def mM194 : mRec := (yX12_need, cX12_need, 2, none, [], [], mC194)
-- LaneEyesModel.numberHere(II)Z
set_option maxRecDepth 20000 in
def mB195_0 : mCodeT := [(0, .aload_n 0, []), (1, .invokevirtual 200, [0, 192, 0, 10]), (4, .ifCond .ne 5, []), (7, .iconst 0, []), (8, .ireturn, [])]
set_option maxRecDepth 20000 in
def mB195_9 : mCodeT := [(9, .aload_n 0, []), (10, .getfield 174, [10, 24]), (13, .iconst 2, []), (14, .if_icmp .eq 11, []), (17, .aload_n 0, []), (18, .iconst 1, []), (19, .invokevirtual 207, [0, 191, 1, 10]), (22, .goto 32, [])]
set_option maxRecDepth 20000 in
def mB195_25 : mCodeT := [(25, .aload_n 0, []), (26, .getfield 184, [10, 26]), (29, .iconst 4, []), (30, .if_icmp .gt 19, []), (33, .aload_n 0, []), (34, .getfield 168, [10, 27]), (37, .iload_n 1, []), (38, .if_icmp .lt 11, []), (41, .aload_n 0, []), (42, .getfield 168, [10, 27]), (45, .iload_n 2, []), (46, .if_icmp .le 8, [])]
set_option maxRecDepth 20000 in
def mB195_49 : mCodeT := [(49, .aload_n 0, []), (50, .iconst 2, []), (51, .invokevirtual 207, [0, 191, 1, 10])]
set_option maxRecDepth 20000 in
def mB195_54 : mCodeT := [(54, .aload_n 0, []), (55, .invokevirtual 200, [0, 192, 0, 10]), (58, .ireturn, [])]
set_option maxRecDepth 20000 in
def mC195 : mCodeT := mB195_0 ++ (mB195_9 ++ (mB195_25 ++ (mB195_49 ++ (mB195_54))))
def mM195 : mRec := (yX12_numberHere, cX12_numberHere, 3, (some .boolean), [], [], mC195)
-- LaneEyesModel.number(II)I
set_option maxRecDepth 20000 in
def mB196_0 : mCodeT := [(0, .aload_n 0, []), (1, .iload_n 1, []), (2, .iload_n 2, []), (3, .invokevirtual 210, [0, 195, 2, 10]), (6, .ifCond .eq 10, []), (9, .aload_n 0, []), (10, .getfield 168, [10, 27]), (13, .goto 4, [])]
set_option maxRecDepth 20000 in
def mB196_16 : mCodeT := [(16, .iconst 0, [])]
set_option maxRecDepth 20000 in
def mB196_17 : mCodeT := [(17, .istore_n 3, []), (18, .aload_n 0, []), (19, .invokevirtual 200, [0, 192, 0, 10]), (22, .ifCond .eq 7, []), (25, .aload_n 0, []), (26, .invokevirtual 204, [0, 187, 0, 10])]
set_option maxRecDepth 20000 in
def mB196_29 : mCodeT := [(29, .iload_n 3, []), (30, .ireturn, [])]
set_option maxRecDepth 20000 in
def mC196 : mCodeT := mB196_0 ++ (mB196_16 ++ (mB196_17 ++ (mB196_29)))
def mM196 : mRec := (yX12_number, cX12_number, 4, (some .int), [], [], mC196)
-- LaneEyesModel.puts(I)V
set_option maxRecDepth 20000 in
def mB197_0 : mCodeT := [(0, .aload_n 0, []), (1, .getfield 80, [10, 57]), (4, .aload_n 0, []), (5, .getfield 214, [10, 44]), (8, .iload_n 1, []), (9, .iastore, []), (10, .aload_n 0, []), (11, .dup, []), (12, .getfield 214, [10, 44]), (15, .iconst 1, []), (16, .iadd, []), (17, .putfield 214, [10, 44]), (20, .return_, [])]
set_option maxRecDepth 20000 in
def mC197 : mCodeT := mB197_0
def mM197 : mRec := (yX12_puts, cX12_puts, 2, none, [], [], mC197)
-- LaneEyesModel.isOpen(I)Z
set_option maxRecDepth 20000 in
def mB198_0 : mCodeT := [(0, .iload_n 0, []), (1, .bipush 14, []), (3, .if_icmp .lt 7, []), (6, .iconst 1, []), (7, .goto 4, [])]
set_option maxRecDepth 20000 in
def mB198_10 : mCodeT := [(10, .iconst 0, [])]
set_option maxRecDepth 20000 in
def mB198_11 : mCodeT := [(11, .ireturn, [])]
set_option maxRecDepth 20000 in
def mC198 : mCodeT := mB198_0 ++ (mB198_10 ++ (mB198_11))
def mM198 : mRec := (yX12_isOpen, cX12_isOpen, 1, (some .boolean), [], [], mC198)
-- LaneEyesModel.strength(I)I
set_option maxRecDepth 20000 in
def mB199_0 : mCodeT := [(0, .iload_n 0, []), (1, .iconst 5, []), (2, .if_icmp .ne 7, []), (5, .iconst 1, []), (6, .goto 55, [])]
set_option maxRecDepth 20000 in
def mB199_9 : mCodeT := [(9, .iload_n 0, []), (10, .iconst 4, []), (11, .if_icmp .ne 7, []), (14, .iconst 2, []), (15, .goto 46, [])]
set_option maxRecDepth 20000 in
def mB199_18 : mCodeT := [(18, .iload_n 0, []), (19, .iconst 3, []), (20, .if_icmp .ne 7, []), (23, .iconst 3, []), (24, .goto 37, [])]
set_option maxRecDepth 20000 in
def mB199_27 : mCodeT := [(27, .iload_n 0, []), (28, .bipush 6, []), (30, .if_icmp .eq 9, []), (33, .iload_n 0, []), (34, .bipush 7, []), (36, .if_icmp .ne 7, [])]
set_option maxRecDepth 20000 in
def mB199_39 : mCodeT := [(39, .iconst 4, []), (40, .goto 21, [])]
set_option maxRecDepth 20000 in
def mB199_43 : mCodeT := [(43, .iload_n 0, []), (44, .bipush 8, []), (46, .if_icmp .eq 9, []), (49, .iload_n 0, []), (50, .bipush 9, []), (52, .if_icmp .ne 7, [])]
set_option maxRecDepth 20000 in
def mB199_55 : mCodeT := [(55, .iconst 5, []), (56, .goto 5, [])]
set_option maxRecDepth 20000 in
def mB199_59 : mCodeT := [(59, .bipush 6, [])]
set_option maxRecDepth 20000 in
def mB199_61 : mCodeT := [(61, .ireturn, [])]
set_option maxRecDepth 20000 in
def mC199 : mCodeT := mB199_0 ++ (mB199_9 ++ (mB199_18 ++ (mB199_27 ++ (mB199_39 ++ (mB199_43 ++ (mB199_55 ++ (mB199_59 ++ (mB199_61))))))))
def mM199 : mRec := (yX12_strength, cX12_strength, 1, (some .int), [], [], mC199)
-- LaneEyesModel.drops(I)V
set_option maxRecDepth 20000 in
def mB200_0 : mCodeT := [(0, .aload_n 0, []), (1, .getfield 217, [10, 45]), (4, .ifCond .le 64, []), (7, .aload_n 0, []), (8, .getfield 83, [10, 58]), (11, .aload_n 0, []), (12, .getfield 217, [10, 45]), (15, .iconst 1, []), (16, .isub, []), (17, .iaload, []), (18, .invokestatic 220, [1, 198, 1]), (21, .ifCond .ne 47, []), (24, .aload_n 0, []), (25, .getfield 83, [10, 58]), (28, .aload_n 0, []), (29, .getfield 217, [10, 45]), (32, .iconst 1, []), (33, .isub, []), (34, .iaload, []), (35, .invokestatic 223, [1, 199, 1]), (38, .iload_n 1, []), (39, .if_icmp .lt 29, []), (42, .aload_n 0, []), (43, .dup, []), (44, .getfield 217, [10, 45]), (47, .iconst 1, []), (48, .isub, []), (49, .putfield 217, [10, 45]), (52, .aload_n 0, []), (53, .aload_n 0, []), (54, .getfield 83, [10, 58]), (57, .aload_n 0, []), (58, .getfield 217, [10, 45]), (61, .iaload, []), (62, .invokevirtual 226, [0, 197, 1, 10]), (65, .goto (-65), [])]
set_option maxRecDepth 20000 in
def mB200_68 : mCodeT := [(68, .return_, [])]
set_option maxRecDepth 20000 in
def mC200 : mCodeT := mB200_0 ++ (mB200_68)
def mM200 : mRec := (yX12_drops, cX12_drops, 2, none, [], [], mC200)
-- LaneEyesModel.waitsFor(I)V
set_option maxRecDepth 20000 in
def mB201_0 : mCodeT := [(0, .aload_n 0, []), (1, .getfield 83, [10, 58]), (4, .aload_n 0, []), (5, .getfield 217, [10, 45]), (8, .iload_n 1, []), (9, .iastore, []), (10, .aload_n 0, []), (11, .dup, []), (12, .getfield 217, [10, 45]), (15, .iconst 1, []), (16, .iadd, []), (17, .putfield 217, [10, 45]), (20, .return_, [])]
set_option maxRecDepth 20000 in
def mC201 : mCodeT := mB201_0
def mM201 : mRec := (yX12_waitsFor, cX12_waitsFor, 2, none, [], [], mC201)
-- LaneEyesModel.part()V
set_option maxRecDepth 20000 in
def mB202_0 : mCodeT := [(0, .aload_n 0, []), (1, .invokevirtual 200, [0, 192, 0, 10]), (4, .ifCond .ne 4, []), (7, .return_, [])]
set_option maxRecDepth 20000 in
def mB202_8 : mCodeT := [(8, .aload_n 0, []), (9, .getfield 174, [10, 24]), (12, .iconst 2, []), (13, .if_icmp .ne 32, []), (16, .aload_n 0, []), (17, .getfield 184, [10, 26]), (20, .iconst 4, []), (21, .if_icmp .le 8, []), (24, .aload_n 0, []), (25, .iconst 2, []), (26, .invokevirtual 207, [0, 191, 1, 10])]
set_option maxRecDepth 20000 in
def mB202_29 : mCodeT := [(29, .aload_n 0, []), (30, .iconst 1, []), (31, .invokevirtual 226, [0, 197, 1, 10]), (34, .aload_n 0, []), (35, .aload_n 0, []), (36, .getfield 168, [10, 27]), (39, .invokevirtual 226, [0, 197, 1, 10]), (42, .goto 55, [])]
set_option maxRecDepth 20000 in
def mB202_45 : mCodeT := [(45, .aload_n 0, []), (46, .getfield 174, [10, 24]), (49, .iconst 1, []), (50, .if_icmp .ne 42, []), (53, .aload_n 0, []), (54, .invokevirtual 229, [0, 190, 0, 10]), (57, .istore_n 1, []), (58, .iload_n 1, []), (59, .aload_n 0, []), (60, .getfield 233, [10, 42]), (63, .if_icmp .lt 11, []), (66, .iload_n 1, []), (67, .aload_n 0, []), (68, .getfield 236, [10, 43]), (71, .if_icmp .le 8, [])]
set_option maxRecDepth 20000 in
def mB202_74 : mCodeT := [(74, .aload_n 0, []), (75, .iconst 3, []), (76, .invokevirtual 207, [0, 191, 1, 10])]
set_option maxRecDepth 20000 in
def mB202_79 : mCodeT := [(79, .aload_n 0, []), (80, .iconst 2, []), (81, .invokevirtual 226, [0, 197, 1, 10]), (84, .aload_n 0, []), (85, .iload_n 1, []), (86, .invokevirtual 226, [0, 197, 1, 10]), (89, .goto 8, [])]
set_option maxRecDepth 20000 in
def mB202_92 : mCodeT := [(92, .aload_n 0, []), (93, .iconst 1, []), (94, .invokevirtual 207, [0, 191, 1, 10])]
set_option maxRecDepth 20000 in
def mB202_97 : mCodeT := [(97, .aload_n 0, []), (98, .invokevirtual 200, [0, 192, 0, 10]), (101, .ifCond .eq 7, []), (104, .aload_n 0, []), (105, .invokevirtual 204, [0, 187, 0, 10])]
set_option maxRecDepth 20000 in
def mB202_108 : mCodeT := [(108, .return_, [])]
set_option maxRecDepth 20000 in
def mC202 : mCodeT := mB202_0 ++ (mB202_8 ++ (mB202_29 ++ (mB202_45 ++ (mB202_74 ++ (mB202_79 ++ (mB202_92 ++ (mB202_97 ++ (mB202_108))))))))
def mM202 : mRec := (yX12_part, cX12_part, 2, none, [], [], mC202)
-- LaneEyesModel.deeper()V
set_option maxRecDepth 20000 in
def mB203_0 : mCodeT := [(0, .aload_n 0, []), (1, .getfield 239, [10, 46]), (4, .bipush 6, []), (6, .if_icmp .ge 24, []), (9, .aload_n 0, []), (10, .dup, []), (11, .getfield 239, [10, 46]), (14, .iconst 1, []), (15, .iadd, []), (16, .putfield 239, [10, 46]), (19, .aload_n 0, []), (20, .getfield 86, [10, 59]), (23, .aload_n 0, []), (24, .getfield 239, [10, 46]), (27, .iconst 0, []), (28, .bastore, []), (29, .return_, [])]
set_option maxRecDepth 20000 in
def mB203_30 : mCodeT := [(30, .aload_n 0, []), (31, .aload_n 0, []), (32, .getfield 174, [10, 24]), (35, .iconst 2, []), (36, .if_icmp .eq 20, []), (39, .aload_n 0, []), (40, .getfield 174, [10, 24]), (43, .iconst 1, []), (44, .if_icmp .eq 12, []), (47, .aload_n 0, []), (48, .bipush 40, []), (50, .invokevirtual 242, [0, 193, 1, 10]), (53, .ifCond .eq 7, [])]
set_option maxRecDepth 20000 in
def mB203_56 : mCodeT := [(56, .iconst 2, []), (57, .goto 4, [])]
set_option maxRecDepth 20000 in
def mB203_60 : mCodeT := [(60, .iconst 1, [])]
set_option maxRecDepth 20000 in
def mB203_61 : mCodeT := [(61, .invokevirtual 207, [0, 191, 1, 10]), (64, .return_, [])]
set_option maxRecDepth 20000 in
def mC203 : mCodeT := mB203_0 ++ (mB203_30 ++ (mB203_56 ++ (mB203_60 ++ (mB203_61))))
def mM203 : mRec := (yX12_deeper, cX12_deeper, 1, none, [], [], mC203)
-- LaneEyesModel.operand(Z)V
set_option maxRecDepth 20000 in
def mB204_0 : mCodeT := [(0, .iload_n 1, []), (1, .istore_n 2, []), (2, .iconst 1, []), (3, .istore_n 3, [])]
set_option maxRecDepth 20000 in
def mB204_4 : mCodeT := [(4, .iload_n 3, []), (5, .ifCond .eq 115, []), (8, .aload_n 0, []), (9, .invokevirtual 200, [0, 192, 0, 10]), (12, .ifCond .eq 108, []), (15, .iconst 0, []), (16, .istore 4, [])]
set_option maxRecDepth 20000 in
def mB204_18 : mCodeT := [(18, .aload_n 0, []), (19, .invokevirtual 200, [0, 192, 0, 10]), (22, .ifCond .eq 53, []), (25, .iload_n 2, []), (26, .ifCond .eq 49, []), (29, .aload_n 0, []), (30, .invokevirtual 229, [0, 190, 0, 10]), (33, .bipush 24, []), (35, .if_icmp .ne 40, []), (38, .iload 4, []), (40, .bipush 6, []), (42, .if_icmp .ne 8, []), (45, .aload_n 0, []), (46, .iconst 2, []), (47, .invokevirtual 207, [0, 191, 1, 10])]
set_option maxRecDepth 20000 in
def mB204_50 : mCodeT := [(50, .iinc 4 1, []), (53, .aload_n 0, []), (54, .invokevirtual 200, [0, 192, 0, 10]), (57, .ifCond .ne 6, []), (60, .goto (-42), [])]
set_option maxRecDepth 20000 in
def mB204_63 : mCodeT := [(63, .aload_n 0, []), (64, .iconst 3, []), (65, .invokevirtual 245, [0, 201, 1, 10]), (68, .aload_n 0, []), (69, .invokevirtual 204, [0, 187, 0, 10]), (72, .goto (-54), [])]
set_option maxRecDepth 20000 in
def mB204_75 : mCodeT := [(75, .aload_n 0, []), (76, .invokevirtual 200, [0, 192, 0, 10]), (79, .ifCond .eq 16, []), (82, .aload_n 0, []), (83, .bipush 40, []), (85, .invokevirtual 242, [0, 193, 1, 10]), (88, .ifCond .eq 7, []), (91, .iconst 1, []), (92, .goto 4, [])]
set_option maxRecDepth 20000 in
def mB204_95 : mCodeT := [(95, .iconst 0, [])]
set_option maxRecDepth 20000 in
def mB204_96 : mCodeT := [(96, .istore_n 3, []), (97, .iload_n 3, []), (98, .ifCond .eq 19, []), (101, .aload_n 0, []), (102, .bipush 14, []), (104, .invokevirtual 245, [0, 201, 1, 10]), (107, .aload_n 0, []), (108, .invokevirtual 204, [0, 187, 0, 10]), (111, .aload_n 0, []), (112, .invokevirtual 248, [0, 203, 0, 10]), (115, .iconst 1, []), (116, .istore_n 2, [])]
set_option maxRecDepth 20000 in
def mB204_117 : mCodeT := [(117, .goto (-113), [])]
set_option maxRecDepth 20000 in
def mB204_120 : mCodeT := [(120, .aload_n 0, []), (121, .invokevirtual 251, [0, 202, 0, 10]), (124, .return_, [])]
set_option maxRecDepth 20000 in
def mC204 : mCodeT := mB204_0 ++ (mB204_4 ++ (mB204_18 ++ (mB204_50 ++ (mB204_63 ++ (mB204_75 ++ (mB204_95 ++ (mB204_96 ++ (mB204_117 ++ (mB204_120)))))))))
def mM204 : mRec := (yX12_operand, cX12_operand, 5, none, [], [], mC204)
-- LaneEyesModel.isOpened()Z
set_option maxRecDepth 20000 in
def mB205_0 : mCodeT := [(0, .aload_n 0, []), (1, .getfield 217, [10, 45]), (4, .iconst 1, []), (5, .isub, []), (6, .istore_n 1, [])]
set_option maxRecDepth 20000 in
def mB205_7 : mCodeT := [(7, .iload_n 1, []), (8, .ifCond .lt 21, []), (11, .aload_n 0, []), (12, .getfield 83, [10, 58]), (15, .iload_n 1, []), (16, .iaload, []), (17, .invokestatic 220, [1, 198, 1]), (20, .ifCond .ne 9, []), (23, .iinc 1 (-1), []), (26, .goto (-19), [])]
set_option maxRecDepth 20000 in
def mB205_29 : mCodeT := [(29, .iload_n 1, []), (30, .ifCond .lt 7, []), (33, .iconst 1, []), (34, .goto 4, [])]
set_option maxRecDepth 20000 in
def mB205_37 : mCodeT := [(37, .iconst 0, [])]
set_option maxRecDepth 20000 in
def mB205_38 : mCodeT := [(38, .ireturn, [])]
set_option maxRecDepth 20000 in
def mC205 : mCodeT := mB205_0 ++ (mB205_7 ++ (mB205_29 ++ (mB205_37 ++ (mB205_38))))
def mM205 : mRec := (yX12_isOpened, cX12_isOpened, 2, (some .boolean), [], [], mC205)
-- LaneEyesModel.closes()V
set_option maxRecDepth 20000 in
def mB206_0 : mCodeT := [(0, .aload_n 0, []), (1, .iconst 0, []), (2, .invokevirtual 254, [0, 200, 1, 10]), (5, .aload_n 0, []), (6, .dup, []), (7, .getfield 217, [10, 45]), (10, .iconst 1, []), (11, .isub, []), (12, .putfield 217, [10, 45]), (15, .aload_n 0, []), (16, .dup, []), (17, .getfield 239, [10, 46]), (20, .iconst 1, []), (21, .isub, []), (22, .putfield 239, [10, 46]), (25, .aload_n 0, []), (26, .invokevirtual 204, [0, 187, 0, 10]), (29, .return_, [])]
set_option maxRecDepth 20000 in
def mC206 : mCodeT := mB206_0
def mM206 : mRec := (yX12_closes, cX12_closes, 1, none, [], [], mC206)
-- LaneEyesModel.expression(II)V
set_option maxRecDepth 20000 in
def mB207_0 : mCodeT := [(0, .aload_n 0, []), (1, .invokevirtual 200, [0, 192, 0, 10]), (4, .ifCond .ne 4, []), (7, .return_, [])]
set_option maxRecDepth 20000 in
def mB207_8 : mCodeT := [(8, .aload_n 0, []), (9, .iload_n 1, []), (10, .putfield 233, [10, 42]), (13, .aload_n 0, []), (14, .iload_n 2, []), (15, .putfield 236, [10, 43]), (18, .aload_n 0, []), (19, .iconst 0, []), (20, .putfield 217, [10, 45]), (23, .aload_n 0, []), (24, .iconst 0, []), (25, .putfield 239, [10, 46]), (28, .aload_n 0, []), (29, .invokevirtual 248, [0, 203, 0, 10]), (32, .aload_n 0, []), (33, .iconst 1, []), (34, .invokevirtual 257, [0, 204, 1, 10]), (37, .iconst 1, []), (38, .istore_n 3, [])]
set_option maxRecDepth 20000 in
def mB207_39 : mCodeT := [(39, .iload_n 3, []), (40, .ifCond .eq 300, []), (43, .aload_n 0, []), (44, .invokevirtual 200, [0, 192, 0, 10]), (47, .ifCond .eq 293, []), (50, .aload_n 0, []), (51, .invokevirtual 229, [0, 190, 0, 10]), (54, .istore 4, []), (56, .iload 4, []), (58, .bipush 22, []), (60, .if_icmp .eq 10, []), (63, .iload 4, []), (65, .bipush 23, []), (67, .if_icmp .ne 57, [])]
set_option maxRecDepth 20000 in
def mB207_70 : mCodeT := [(70, .aload_n 0, []), (71, .iload 4, []), (73, .bipush 22, []), (75, .if_icmp .ne 7, []), (78, .iconst 2, []), (79, .goto 4, [])]
set_option maxRecDepth 20000 in
def mB207_82 : mCodeT := [(82, .iconst 1, [])]
set_option maxRecDepth 20000 in
def mB207_83 : mCodeT := [(83, .invokevirtual 254, [0, 200, 1, 10]), (86, .aload_n 0, []), (87, .iload 4, []), (89, .bipush 22, []), (91, .if_icmp .ne 7, []), (94, .iconst 4, []), (95, .goto 4, [])]
set_option maxRecDepth 20000 in
def mB207_98 : mCodeT := [(98, .iconst 5, [])]
set_option maxRecDepth 20000 in
def mB207_99 : mCodeT := [(99, .invokevirtual 245, [0, 201, 1, 10]), (102, .aload_n 0, []), (103, .getfield 86, [10, 59]), (106, .aload_n 0, []), (107, .getfield 239, [10, 46]), (110, .iconst 0, []), (111, .bastore, []), (112, .aload_n 0, []), (113, .invokevirtual 204, [0, 187, 0, 10]), (116, .aload_n 0, []), (117, .iconst 1, []), (118, .invokevirtual 257, [0, 204, 1, 10]), (121, .goto 216, [])]
set_option maxRecDepth 20000 in
def mB207_124 : mCodeT := [(124, .aload_n 0, []), (125, .bipush 60, []), (127, .invokevirtual 242, [0, 193, 1, 10]), (130, .ifCond .ne 12, []), (133, .aload_n 0, []), (134, .bipush 61, []), (136, .invokevirtual 242, [0, 193, 1, 10]), (139, .ifCond .eq 62, [])]
set_option maxRecDepth 20000 in
def mB207_142 : mCodeT := [(142, .aload_n 0, []), (143, .getfield 86, [10, 59]), (146, .aload_n 0, []), (147, .getfield 239, [10, 46]), (150, .baload, []), (151, .ifCond .ne 50, []), (154, .aload_n 0, []), (155, .iconst 4, []), (156, .invokevirtual 254, [0, 200, 1, 10]), (159, .aload_n 0, []), (160, .aload_n 0, []), (161, .bipush 60, []), (163, .invokevirtual 242, [0, 193, 1, 10]), (166, .ifCond .eq 8, []), (169, .bipush 6, []), (171, .goto 5, [])]
set_option maxRecDepth 20000 in
def mB207_174 : mCodeT := [(174, .bipush 7, [])]
set_option maxRecDepth 20000 in
def mB207_176 : mCodeT := [(176, .invokevirtual 245, [0, 201, 1, 10]), (179, .aload_n 0, []), (180, .getfield 86, [10, 59]), (183, .aload_n 0, []), (184, .getfield 239, [10, 46]), (187, .iconst 1, []), (188, .bastore, []), (189, .aload_n 0, []), (190, .invokevirtual 204, [0, 187, 0, 10]), (193, .aload_n 0, []), (194, .iconst 0, []), (195, .invokevirtual 257, [0, 204, 1, 10]), (198, .goto 139, [])]
set_option maxRecDepth 20000 in
def mB207_201 : mCodeT := [(201, .aload_n 0, []), (202, .bipush 43, []), (204, .invokevirtual 242, [0, 193, 1, 10]), (207, .ifCond .ne 12, []), (210, .aload_n 0, []), (211, .bipush 45, []), (213, .invokevirtual 242, [0, 193, 1, 10]), (216, .ifCond .eq 40, [])]
set_option maxRecDepth 20000 in
def mB207_219 : mCodeT := [(219, .aload_n 0, []), (220, .iconst 5, []), (221, .invokevirtual 254, [0, 200, 1, 10]), (224, .aload_n 0, []), (225, .aload_n 0, []), (226, .bipush 43, []), (228, .invokevirtual 242, [0, 193, 1, 10]), (231, .ifCond .eq 8, []), (234, .bipush 8, []), (236, .goto 5, [])]
set_option maxRecDepth 20000 in
def mB207_239 : mCodeT := [(239, .bipush 9, [])]
set_option maxRecDepth 20000 in
def mB207_241 : mCodeT := [(241, .invokevirtual 245, [0, 201, 1, 10]), (244, .aload_n 0, []), (245, .invokevirtual 204, [0, 187, 0, 10]), (248, .aload_n 0, []), (249, .iconst 0, []), (250, .invokevirtual 257, [0, 204, 1, 10]), (253, .goto 84, [])]
set_option maxRecDepth 20000 in
def mB207_256 : mCodeT := [(256, .aload_n 0, []), (257, .bipush 42, []), (259, .invokevirtual 242, [0, 193, 1, 10]), (262, .ifCond .ne 12, []), (265, .aload_n 0, []), (266, .bipush 47, []), (268, .invokevirtual 242, [0, 193, 1, 10]), (271, .ifCond .eq 41, [])]
set_option maxRecDepth 20000 in
def mB207_274 : mCodeT := [(274, .aload_n 0, []), (275, .bipush 6, []), (277, .invokevirtual 254, [0, 200, 1, 10]), (280, .aload_n 0, []), (281, .aload_n 0, []), (282, .bipush 42, []), (284, .invokevirtual 242, [0, 193, 1, 10]), (287, .ifCond .eq 8, []), (290, .bipush 10, []), (292, .goto 5, [])]
set_option maxRecDepth 20000 in
def mB207_295 : mCodeT := [(295, .bipush 11, [])]
set_option maxRecDepth 20000 in
def mB207_297 : mCodeT := [(297, .invokevirtual 245, [0, 201, 1, 10]), (300, .aload_n 0, []), (301, .invokevirtual 204, [0, 187, 0, 10]), (304, .aload_n 0, []), (305, .iconst 0, []), (306, .invokevirtual 257, [0, 204, 1, 10]), (309, .goto 28, [])]
set_option maxRecDepth 20000 in
def mB207_312 : mCodeT := [(312, .aload_n 0, []), (313, .bipush 41, []), (315, .invokevirtual 242, [0, 193, 1, 10]), (318, .ifCond .eq 17, []), (321, .aload_n 0, []), (322, .invokevirtual 261, [0, 205, 0, 10]), (325, .ifCond .eq 10, []), (328, .aload_n 0, []), (329, .invokevirtual 264, [0, 206, 0, 10]), (332, .goto 5, [])]
set_option maxRecDepth 20000 in
def mB207_335 : mCodeT := [(335, .iconst 0, []), (336, .istore_n 3, [])]
set_option maxRecDepth 20000 in
def mB207_337 : mCodeT := [(337, .goto (-298), [])]
set_option maxRecDepth 20000 in
def mB207_340 : mCodeT := [(340, .aload_n 0, []), (341, .invokevirtual 200, [0, 192, 0, 10]), (344, .ifCond .eq 16, []), (347, .aload_n 0, []), (348, .getfield 239, [10, 46]), (351, .iconst 1, []), (352, .if_icmp .le 8, []), (355, .aload_n 0, []), (356, .iconst 1, []), (357, .invokevirtual 207, [0, 191, 1, 10])]
set_option maxRecDepth 20000 in
def mB207_360 : mCodeT := [(360, .aload_n 0, []), (361, .iconst 0, []), (362, .invokevirtual 254, [0, 200, 1, 10]), (365, .aload_n 0, []), (366, .iconst 0, []), (367, .invokevirtual 226, [0, 197, 1, 10]), (370, .return_, [])]
set_option maxRecDepth 20000 in
def mC207_0 : mCodeT := mB207_0 ++ (mB207_8 ++ (mB207_39 ++ (mB207_70 ++ (mB207_82))))
set_option maxRecDepth 20000 in
def mC207_1 : mCodeT := mB207_83 ++ (mB207_98 ++ (mB207_99 ++ (mB207_124 ++ (mB207_142 ++ (mB207_174)))))
set_option maxRecDepth 20000 in
def mC207_2 : mCodeT := mB207_176 ++ (mB207_201 ++ (mB207_219 ++ (mB207_239 ++ (mB207_241 ++ (mB207_256)))))
set_option maxRecDepth 20000 in
def mC207_3 : mCodeT := mB207_274 ++ (mB207_295 ++ (mB207_297 ++ (mB207_312 ++ (mB207_335 ++ (mB207_337 ++ (mB207_340 ++ (mB207_360)))))))
set_option maxRecDepth 20000 in
def mC207 : mCodeT := mC207_0 ++ (mC207_1 ++ (mC207_2 ++ (mC207_3)))
def mM207 : mRec := (yX12_expression, cX12_expression, 5, none, [], [], mC207)
-- LaneEyesModel.once(I)Z
set_option maxRecDepth 20000 in
def mB208_0 : mCodeT := [(0, .aload_n 0, []), (1, .getfield 267, [10, 41]), (4, .iload_n 1, []), (5, .ishr, []), (6, .iconst 1, []), (7, .iand, []), (8, .iconst 1, []), (9, .if_icmp .ne 8, []), (12, .aload_n 0, []), (13, .iconst 5, []), (14, .invokevirtual 207, [0, 191, 1, 10])]
set_option maxRecDepth 20000 in
def mB208_17 : mCodeT := [(17, .aload_n 0, []), (18, .dup, []), (19, .getfield 267, [10, 41]), (22, .iconst 1, []), (23, .iload_n 1, []), (24, .ishl, []), (25, .ior, []), (26, .putfield 267, [10, 41]), (29, .aload_n 0, []), (30, .invokevirtual 200, [0, 192, 0, 10]), (33, .ifCond .eq 7, []), (36, .aload_n 0, []), (37, .invokevirtual 204, [0, 187, 0, 10])]
set_option maxRecDepth 20000 in
def mB208_40 : mCodeT := [(40, .aload_n 0, []), (41, .invokevirtual 200, [0, 192, 0, 10]), (44, .ireturn, [])]
set_option maxRecDepth 20000 in
def mC208 : mCodeT := mB208_0 ++ (mB208_17 ++ (mB208_40))
def mM208 : mRec := (yX12_once, cX12_once, 2, (some .boolean), [], [], mC208)
-- LaneEyesModel.cellHere()I
set_option maxRecDepth 20000 in
def mB209_0 : mCodeT := [(0, .aload_n 0, []), (1, .iconst 0, []), (2, .aload_n 0, []), (3, .getfield 270, [10, 30]), (6, .iconst 1, []), (7, .isub, []), (8, .invokevirtual 273, [0, 196, 2, 10]), (11, .istore_n 1, []), (12, .aload_n 0, []), (13, .iconst 0, []), (14, .aload_n 0, []), (15, .getfield 277, [10, 31]), (18, .iconst 1, []), (19, .isub, []), (20, .invokevirtual 210, [0, 195, 2, 10]), (23, .ifCond .eq 17, []), (26, .aload_n 0, []), (27, .getfield 270, [10, 30]), (30, .aload_n 0, []), (31, .getfield 168, [10, 27]), (34, .imul, []), (35, .iload_n 1, []), (36, .iadd, []), (37, .goto 4, [])]
set_option maxRecDepth 20000 in
def mB209_40 : mCodeT := [(40, .iconst 0, [])]
set_option maxRecDepth 20000 in
def mB209_41 : mCodeT := [(41, .ireturn, [])]
set_option maxRecDepth 20000 in
def mC209 : mCodeT := mB209_0 ++ (mB209_40 ++ (mB209_41))
def mM209 : mRec := (yX12_cellHere, cX12_cellHere, 2, (some .int), [], [], mC209)
-- LaneEyesModel.cellNext()I
set_option maxRecDepth 20000 in
def mB210_0 : mCodeT := [(0, .aload_n 0, []), (1, .invokevirtual 280, [0, 209, 0, 10]), (4, .istore_n 1, []), (5, .aload_n 0, []), (6, .invokevirtual 200, [0, 192, 0, 10]), (9, .ifCond .eq 7, []), (12, .aload_n 0, []), (13, .invokevirtual 204, [0, 187, 0, 10])]
set_option maxRecDepth 20000 in
def mB210_16 : mCodeT := [(16, .iload_n 1, []), (17, .ireturn, [])]
set_option maxRecDepth 20000 in
def mC210 : mCodeT := mB210_0 ++ (mB210_16)
def mM210 : mRec := (yX12_cellNext, cX12_cellNext, 2, (some .int), [], [], mC210)
-- LaneEyesModel.readsCase()V
set_option maxRecDepth 20000 in
def mB211_0 : mCodeT := [(0, .aload_n 0, []), (1, .getfield 283, [10, 37]), (4, .bipush 10, []), (6, .if_icmp .ne 8, []), (9, .aload_n 0, []), (10, .iconst 2, []), (11, .invokevirtual 207, [0, 191, 1, 10])]
set_option maxRecDepth 20000 in
def mB211_14 : mCodeT := [(14, .aload_n 0, []), (15, .invokevirtual 200, [0, 192, 0, 10]), (18, .ifCond .ne 4, []), (21, .return_, [])]
set_option maxRecDepth 20000 in
def mB211_22 : mCodeT := [(22, .aload_n 0, []), (23, .invokevirtual 204, [0, 187, 0, 10]), (26, .iconst 5, []), (27, .aload_n 0, []), (28, .getfield 283, [10, 37]), (31, .imul, []), (32, .istore_n 1, []), (33, .iconst 0, []), (34, .istore_n 2, [])]
set_option maxRecDepth 20000 in
def mB211_35 : mCodeT := [(35, .iload_n 2, []), (36, .iconst 4, []), (37, .if_icmp .ge 24, []), (40, .aload_n 0, []), (41, .getfield 74, [10, 55]), (44, .iload_n 1, []), (45, .iload_n 2, []), (46, .iadd, []), (47, .aload_n 0, []), (48, .iconst 0, []), (49, .bipush 9, []), (51, .invokevirtual 273, [0, 196, 2, 10]), (54, .iastore, []), (55, .iinc 2 1, []), (58, .goto (-23), [])]
set_option maxRecDepth 20000 in
def mB211_61 : mCodeT := [(61, .aload_n 0, []), (62, .invokevirtual 200, [0, 192, 0, 10]), (65, .ifCond .eq 10, []), (68, .aload_n 0, []), (69, .invokevirtual 229, [0, 190, 0, 10]), (72, .goto 4, [])]
set_option maxRecDepth 20000 in
def mB211_75 : mCodeT := [(75, .iconst (-1), [])]
set_option maxRecDepth 20000 in
def mB211_76 : mCodeT := [(76, .istore_n 2, []), (77, .aload_n 0, []), (78, .getfield 74, [10, 55]), (81, .iload_n 1, []), (82, .iconst 4, []), (83, .iadd, []), (84, .iload_n 2, []), (85, .bipush 18, []), (87, .if_icmp .ne 7, []), (90, .iconst 1, []), (91, .goto 4, [])]
set_option maxRecDepth 20000 in
def mB211_94 : mCodeT := [(94, .iconst 0, [])]
set_option maxRecDepth 20000 in
def mB211_95 : mCodeT := [(95, .iastore, []), (96, .aload_n 0, []), (97, .iload_n 2, []), (98, .bipush 18, []), (100, .if_icmp .eq 9, []), (103, .iload_n 2, []), (104, .bipush 19, []), (106, .if_icmp .ne 7, [])]
set_option maxRecDepth 20000 in
def mB211_109 : mCodeT := [(109, .iconst 1, []), (110, .goto 4, [])]
set_option maxRecDepth 20000 in
def mB211_113 : mCodeT := [(113, .iconst 0, [])]
set_option maxRecDepth 20000 in
def mB211_114 : mCodeT := [(114, .invokevirtual 286, [0, 194, 1, 10]), (117, .aload_n 0, []), (118, .invokevirtual 200, [0, 192, 0, 10]), (121, .ifCond .eq 13, []), (124, .aload_n 0, []), (125, .dup, []), (126, .getfield 283, [10, 37]), (129, .iconst 1, []), (130, .iadd, []), (131, .putfield 283, [10, 37])]
set_option maxRecDepth 20000 in
def mB211_134 : mCodeT := [(134, .return_, [])]
set_option maxRecDepth 20000 in
def mC211 : mCodeT := mB211_0 ++ (mB211_14 ++ (mB211_22 ++ (mB211_35 ++ (mB211_61 ++ (mB211_75 ++ (mB211_76 ++ (mB211_94 ++ (mB211_95 ++ (mB211_109 ++ (mB211_113 ++ (mB211_114 ++ (mB211_134))))))))))))
def mM211 : mRec := (yX12_readsCase, cX12_readsCase, 3, none, [], [], mC211)
-- LaneEyesModel.line()V
set_option maxRecDepth 20000 in
def mB212_0 : mCodeT := [(0, .aload_n 0, []), (1, .invokevirtual 229, [0, 190, 0, 10]), (4, .istore_n 1, []), (5, .iload_n 1, []), (6, .bipush 11, []), (8, .if_icmp .eq 8, []), (11, .iload_n 1, []), (12, .iconst 2, []), (13, .if_icmp .ne 130, [])]
set_option maxRecDepth 20000 in
def mB212_16 : mCodeT := [(16, .aload_n 0, []), (17, .invokevirtual 204, [0, 187, 0, 10]), (20, .aload_n 0, []), (21, .invokevirtual 280, [0, 209, 0, 10]), (24, .istore_n 2, []), (25, .aload_n 0, []), (26, .invokevirtual 200, [0, 192, 0, 10]), (29, .ifCond .eq 34, []), (32, .iload_n 1, []), (33, .bipush 11, []), (35, .if_icmp .ne 10, []), (38, .aload_n 0, []), (39, .getfield 289, [10, 47]), (42, .goto 7, [])]
set_option maxRecDepth 20000 in
def mB212_45 : mCodeT := [(45, .aload_n 0, []), (46, .getfield 292, [10, 48])]
set_option maxRecDepth 20000 in
def mB212_49 : mCodeT := [(49, .iload_n 2, []), (50, .lshr, []), (51, .lconst 1, []), (52, .land, []), (53, .lconst 1, []), (54, .lcmp, []), (55, .ifCond .ne 8, []), (58, .aload_n 0, []), (59, .iconst 4, []), (60, .invokevirtual 207, [0, 191, 1, 10])]
set_option maxRecDepth 20000 in
def mB212_63 : mCodeT := [(63, .aload_n 0, []), (64, .invokevirtual 200, [0, 192, 0, 10]), (67, .ifCond .ne 4, []), (70, .return_, [])]
set_option maxRecDepth 20000 in
def mB212_71 : mCodeT := [(71, .aload_n 0, []), (72, .invokevirtual 204, [0, 187, 0, 10]), (75, .aload_n 0, []), (76, .iload_n 1, []), (77, .bipush 11, []), (79, .if_icmp .ne 7, []), (82, .iconst 1, []), (83, .goto 4, [])]
set_option maxRecDepth 20000 in
def mB212_86 : mCodeT := [(86, .iconst 0, [])]
set_option maxRecDepth 20000 in
def mB212_87 : mCodeT := [(87, .bipush 9, []), (89, .invokevirtual 273, [0, 196, 2, 10]), (92, .istore_n 3, []), (93, .iload_n 1, []), (94, .bipush 11, []), (96, .if_icmp .ne 25, []), (99, .aload_n 0, []), (100, .dup, []), (101, .getfield 289, [10, 47]), (104, .lconst 1, []), (105, .iload_n 2, []), (106, .lshl, []), (107, .lor, []), (108, .putfield 289, [10, 47]), (111, .aload_n 0, []), (112, .getfield 56, [10, 49]), (115, .iload_n 2, []), (116, .iload_n 3, []), (117, .iastore, []), (118, .goto 22, [])]
set_option maxRecDepth 20000 in
def mB212_121 : mCodeT := [(121, .aload_n 0, []), (122, .dup, []), (123, .getfield 292, [10, 48]), (126, .lconst 1, []), (127, .iload_n 2, []), (128, .lshl, []), (129, .lor, []), (130, .putfield 292, [10, 48]), (133, .aload_n 0, []), (134, .getfield 59, [10, 50]), (137, .iload_n 2, []), (138, .iload_n 3, []), (139, .iastore, [])]
set_option maxRecDepth 20000 in
def mB212_140 : mCodeT := [(140, .goto 394, [])]
set_option maxRecDepth 20000 in
def mB212_143 : mCodeT := [(143, .iload_n 1, []), (144, .bipush 12, []), (146, .if_icmp .ne 78, []), (149, .aload_n 0, []), (150, .getfield 295, [10, 32]), (153, .bipush 12, []), (155, .if_icmp .ne 8, []), (158, .aload_n 0, []), (159, .iconst 2, []), (160, .invokevirtual 207, [0, 191, 1, 10])]
set_option maxRecDepth 20000 in
def mB212_163 : mCodeT := [(163, .aload_n 0, []), (164, .invokevirtual 200, [0, 192, 0, 10]), (167, .ifCond .ne 4, []), (170, .return_, [])]
set_option maxRecDepth 20000 in
def mB212_171 : mCodeT := [(171, .aload_n 0, []), (172, .invokevirtual 204, [0, 187, 0, 10]), (175, .aload_n 0, []), (176, .getfield 65, [10, 52]), (179, .aload_n 0, []), (180, .getfield 295, [10, 32]), (183, .aload_n 0, []), (184, .invokevirtual 298, [0, 210, 0, 10]), (187, .iastore, []), (188, .aload_n 0, []), (189, .getfield 62, [10, 51]), (192, .aload_n 0, []), (193, .getfield 295, [10, 32]), (196, .aload_n 0, []), (197, .iconst 0, []), (198, .bipush 9, []), (200, .invokevirtual 273, [0, 196, 2, 10]), (203, .iastore, []), (204, .aload_n 0, []), (205, .invokevirtual 200, [0, 192, 0, 10]), (208, .ifCond .eq 326, []), (211, .aload_n 0, []), (212, .dup, []), (213, .getfield 295, [10, 32]), (216, .iconst 1, []), (217, .iadd, []), (218, .putfield 295, [10, 32]), (221, .goto 313, [])]
set_option maxRecDepth 20000 in
def mB212_224 : mCodeT := [(224, .iload_n 1, []), (225, .bipush 13, []), (227, .if_icmp .ne 22, []), (230, .aload_n 0, []), (231, .iload_n 1, []), (232, .invokevirtual 301, [0, 208, 1, 10]), (235, .ifCond .eq 299, []), (238, .aload_n 0, []), (239, .aload_n 0, []), (240, .invokevirtual 298, [0, 210, 0, 10]), (243, .putfield 304, [10, 40]), (246, .goto 288, [])]
set_option maxRecDepth 20000 in
def mB212_249 : mCodeT := [(249, .iload_n 1, []), (250, .bipush 14, []), (252, .if_icmp .ne 78, []), (255, .aload_n 0, []), (256, .getfield 307, [10, 33]), (259, .bipush 12, []), (261, .if_icmp .ne 8, []), (264, .aload_n 0, []), (265, .iconst 2, []), (266, .invokevirtual 207, [0, 191, 1, 10])]
set_option maxRecDepth 20000 in
def mB212_269 : mCodeT := [(269, .aload_n 0, []), (270, .invokevirtual 200, [0, 192, 0, 10]), (273, .ifCond .ne 4, []), (276, .return_, [])]
set_option maxRecDepth 20000 in
def mB212_277 : mCodeT := [(277, .aload_n 0, []), (278, .invokevirtual 204, [0, 187, 0, 10]), (281, .aload_n 0, []), (282, .getfield 68, [10, 53]), (285, .aload_n 0, []), (286, .getfield 307, [10, 33]), (289, .aload_n 0, []), (290, .invokevirtual 298, [0, 210, 0, 10]), (293, .iastore, []), (294, .aload_n 0, []), (295, .getfield 71, [10, 54]), (298, .aload_n 0, []), (299, .getfield 307, [10, 33]), (302, .aload_n 0, []), (303, .iconst 1, []), (304, .bipush 9, []), (306, .invokevirtual 273, [0, 196, 2, 10]), (309, .iastore, []), (310, .aload_n 0, []), (311, .invokevirtual 200, [0, 192, 0, 10]), (314, .ifCond .eq 220, []), (317, .aload_n 0, []), (318, .dup, []), (319, .getfield 307, [10, 33]), (322, .iconst 1, []), (323, .iadd, []), (324, .putfield 307, [10, 33]), (327, .goto 207, [])]
set_option maxRecDepth 20000 in
def mB212_330 : mCodeT := [(330, .iload_n 1, []), (331, .bipush 15, []), (333, .if_icmp .ne 26, []), (336, .aload_n 0, []), (337, .iload_n 1, []), (338, .invokevirtual 301, [0, 208, 1, 10]), (341, .ifCond .eq 193, []), (344, .aload_n 0, []), (345, .aload_n 0, []), (346, .iconst 1, []), (347, .sipush 300, []), (350, .invokevirtual 273, [0, 196, 2, 10]), (353, .putfield 310, [10, 34]), (356, .goto 178, [])]
set_option maxRecDepth 20000 in
def mB212_359 : mCodeT := [(359, .iload_n 1, []), (360, .bipush 16, []), (362, .if_icmp .ne 25, []), (365, .aload_n 0, []), (366, .iload_n 1, []), (367, .invokevirtual 301, [0, 208, 1, 10]), (370, .ifCond .eq 164, []), (373, .aload_n 0, []), (374, .aload_n 0, []), (375, .iconst 1, []), (376, .bipush 99, []), (378, .invokevirtual 273, [0, 196, 2, 10]), (381, .putfield 313, [10, 35]), (384, .goto 150, [])]
set_option maxRecDepth 20000 in
def mB212_387 : mCodeT := [(387, .iload_n 1, []), (388, .bipush 17, []), (390, .if_icmp .ne 10, []), (393, .aload_n 0, []), (394, .invokevirtual 316, [0, 211, 0, 10]), (397, .goto 137, [])]
set_option maxRecDepth 20000 in
def mB212_400 : mCodeT := [(400, .iload_n 1, []), (401, .bipush 20, []), (403, .if_icmp .ne 29, []), (406, .aload_n 0, []), (407, .iload_n 1, []), (408, .invokevirtual 301, [0, 208, 1, 10]), (411, .ifCond .ne 4, []), (414, .return_, [])]
set_option maxRecDepth 20000 in
def mB212_415 : mCodeT := [(415, .aload_n 0, []), (416, .aload_n 0, []), (417, .getfield 214, [10, 44]), (420, .putfield 319, [10, 38]), (423, .aload_n 0, []), (424, .iconst 0, []), (425, .iconst 4, []), (426, .invokevirtual 322, [0, 207, 2, 10]), (429, .goto 105, [])]
set_option maxRecDepth 20000 in
def mB212_432 : mCodeT := [(432, .iload_n 1, []), (433, .bipush 18, []), (435, .if_icmp .ne 29, []), (438, .aload_n 0, []), (439, .iload_n 1, []), (440, .invokevirtual 301, [0, 208, 1, 10]), (443, .ifCond .ne 4, []), (446, .return_, [])]
set_option maxRecDepth 20000 in
def mB212_447 : mCodeT := [(447, .aload_n 0, []), (448, .aload_n 0, []), (449, .getfield 214, [10, 44]), (452, .putfield 326, [10, 39]), (455, .aload_n 0, []), (456, .iconst 1, []), (457, .iconst 5, []), (458, .invokevirtual 322, [0, 207, 2, 10]), (461, .goto 73, [])]
set_option maxRecDepth 20000 in
def mB212_464 : mCodeT := [(464, .iload_n 1, []), (465, .bipush 21, []), (467, .if_icmp .ne 62, []), (470, .aload_n 0, []), (471, .getfield 329, [10, 36]), (474, .iconst 4, []), (475, .if_icmp .ne 8, []), (478, .aload_n 0, []), (479, .iconst 2, []), (480, .invokevirtual 207, [0, 191, 1, 10])]
set_option maxRecDepth 20000 in
def mB212_483 : mCodeT := [(483, .aload_n 0, []), (484, .invokevirtual 200, [0, 192, 0, 10]), (487, .ifCond .ne 4, []), (490, .return_, [])]
set_option maxRecDepth 20000 in
def mB212_491 : mCodeT := [(491, .aload_n 0, []), (492, .invokevirtual 204, [0, 187, 0, 10]), (495, .aload_n 0, []), (496, .getfield 77, [10, 56]), (499, .aload_n 0, []), (500, .getfield 329, [10, 36]), (503, .aload_n 0, []), (504, .getfield 214, [10, 44]), (507, .iastore, []), (508, .aload_n 0, []), (509, .dup, []), (510, .getfield 329, [10, 36]), (513, .iconst 1, []), (514, .iadd, []), (515, .putfield 329, [10, 36]), (518, .aload_n 0, []), (519, .bipush 6, []), (521, .bipush 9, []), (523, .invokevirtual 322, [0, 207, 2, 10]), (526, .goto 8, [])]
set_option maxRecDepth 20000 in
def mB212_529 : mCodeT := [(529, .aload_n 0, []), (530, .iconst 1, []), (531, .invokevirtual 207, [0, 191, 1, 10])]
set_option maxRecDepth 20000 in
def mB212_534 : mCodeT := [(534, .aload_n 0, []), (535, .aload_n 0, []), (536, .bipush 59, []), (538, .invokevirtual 242, [0, 193, 1, 10]), (541, .invokevirtual 286, [0, 194, 1, 10]), (544, .return_, [])]
set_option maxRecDepth 20000 in
def mC212_0 : mCodeT := mB212_0 ++ (mB212_16 ++ (mB212_45 ++ (mB212_49 ++ (mB212_63 ++ (mB212_71 ++ (mB212_86))))))
set_option maxRecDepth 20000 in
def mC212_1 : mCodeT := mB212_87 ++ (mB212_121 ++ (mB212_140 ++ (mB212_143 ++ (mB212_163))))
set_option maxRecDepth 20000 in
def mC212_2 : mCodeT := mB212_171 ++ (mB212_224 ++ (mB212_249))
set_option maxRecDepth 20000 in
def mC212_3 : mCodeT := mB212_269 ++ (mB212_277 ++ (mB212_330))
set_option maxRecDepth 20000 in
def mC212_4 : mCodeT := mB212_359 ++ (mB212_387 ++ (mB212_400 ++ (mB212_415 ++ (mB212_432))))
set_option maxRecDepth 20000 in
def mC212_5 : mCodeT := mB212_447 ++ (mB212_464 ++ (mB212_483 ++ (mB212_491 ++ (mB212_529))))
set_option maxRecDepth 20000 in
def mC212_6 : mCodeT := mB212_534
set_option maxRecDepth 20000 in
def mC212 : mCodeT := mC212_0 ++ (mC212_1 ++ (mC212_2 ++ (mC212_3 ++ (mC212_4 ++ (mC212_5 ++ (mC212_6))))))
def mM212 : mRec := (yX12_line, cX12_line, 4, none, [], [], mC212)
-- LaneEyesModel.lanes(I)I
set_option maxRecDepth 20000 in
def mB213_0 : mCodeT := [(0, .aload_n 0, []), (1, .iconst 0, []), (2, .putfield 141, [10, 0]), (5, .aload_n 0, []), (6, .iload_n 1, []), (7, .ifCond .lt 15, []), (10, .iload_n 1, []), (11, .aload_n 0, []), (12, .getfield 144, [10, 18]), (15, .if_icmp .gt 7, []), (18, .iconst 1, []), (19, .goto 4, [])]
set_option maxRecDepth 20000 in
def mB213_22 : mCodeT := [(22, .iconst 0, [])]
set_option maxRecDepth 20000 in
def mB213_23 : mCodeT := [(23, .iconst 1, []), (24, .invokevirtual 332, [0, 177, 2, 10]), (27, .ifCond .ne 5, []), (30, .iconst 0, []), (31, .ireturn, [])]
set_option maxRecDepth 20000 in
def mB213_32 : mCodeT := [(32, .aload_n 0, []), (33, .iconst 0, []), (34, .putfield 144, [10, 18]), (37, .aload_n 0, []), (38, .iconst (-1), []), (39, .putfield 50, [10, 20]), (42, .aload_n 0, []), (43, .iconst 0, []), (44, .putfield 197, [10, 19]), (47, .aload_n 0, []), (48, .iload_n 1, []), (49, .putfield 151, [10, 22]), (52, .aload_n 0, []), (53, .iconst 0, []), (54, .putfield 154, [10, 23]), (57, .aload_n 0, []), (58, .bipush 8, []), (60, .putfield 270, [10, 30]), (63, .aload_n 0, []), (64, .iconst 5, []), (65, .putfield 277, [10, 31]), (68, .aload_n 0, []), (69, .iconst 0, []), (70, .putfield 295, [10, 32]), (73, .aload_n 0, []), (74, .iconst 0, []), (75, .putfield 307, [10, 33]), (78, .aload_n 0, []), (79, .bipush 60, []), (81, .putfield 310, [10, 34]), (84, .aload_n 0, []), (85, .bipush 20, []), (87, .putfield 313, [10, 35]), (90, .aload_n 0, []), (91, .iconst 0, []), (92, .putfield 329, [10, 36]), (95, .aload_n 0, []), (96, .iconst 0, []), (97, .putfield 283, [10, 37]), (100, .aload_n 0, []), (101, .iconst (-1), []), (102, .putfield 319, [10, 38]), (105, .aload_n 0, []), (106, .iconst (-1), []), (107, .putfield 326, [10, 39]), (110, .aload_n 0, []), (111, .iconst 0, []), (112, .putfield 304, [10, 40]), (115, .aload_n 0, []), (116, .iconst 0, []), (117, .putfield 267, [10, 41]), (120, .aload_n 0, []), (121, .lconst 0, []), (122, .putfield 289, [10, 47]), (125, .aload_n 0, []), (126, .lconst 0, []), (127, .putfield 292, [10, 48]), (130, .aload_n 0, []), (131, .iconst 0, []), (132, .putfield 214, [10, 44]), (135, .iconst 0, []), (136, .istore_n 2, [])]
set_option maxRecDepth 20000 in
def mB213_137 : mCodeT := [(137, .iload_n 2, []), (138, .bipush 40, []), (140, .if_icmp .ge 23, []), (143, .aload_n 0, []), (144, .getfield 56, [10, 49]), (147, .iload_n 2, []), (148, .iconst 3, []), (149, .iastore, []), (150, .aload_n 0, []), (151, .getfield 59, [10, 50]), (154, .iload_n 2, []), (155, .iconst 0, []), (156, .iastore, []), (157, .iinc 2 1, []), (160, .goto (-23), [])]
set_option maxRecDepth 20000 in
def mB213_163 : mCodeT := [(163, .aload_n 0, []), (164, .invokevirtual 204, [0, 187, 0, 10]), (167, .aload_n 0, []), (168, .invokevirtual 229, [0, 190, 0, 10]), (171, .bipush 10, []), (173, .if_icmp .ne 38, []), (176, .aload_n 0, []), (177, .invokevirtual 204, [0, 187, 0, 10]), (180, .aload_n 0, []), (181, .aload_n 0, []), (182, .iconst 1, []), (183, .bipush 8, []), (185, .invokevirtual 273, [0, 196, 2, 10]), (188, .putfield 270, [10, 30]), (191, .aload_n 0, []), (192, .aload_n 0, []), (193, .iconst 1, []), (194, .iconst 5, []), (195, .invokevirtual 273, [0, 196, 2, 10]), (198, .putfield 277, [10, 31]), (201, .aload_n 0, []), (202, .aload_n 0, []), (203, .bipush 59, []), (205, .invokevirtual 242, [0, 193, 1, 10]), (208, .invokevirtual 286, [0, 194, 1, 10])]
set_option maxRecDepth 20000 in
def mB213_211 : mCodeT := [(211, .aload_n 0, []), (212, .invokevirtual 200, [0, 192, 0, 10]), (215, .ifCond .eq 17, []), (218, .aload_n 0, []), (219, .getfield 174, [10, 24]), (222, .ifCond .eq 10, []), (225, .aload_n 0, []), (226, .invokevirtual 336, [0, 212, 0, 10]), (229, .goto (-18), [])]
set_option maxRecDepth 20000 in
def mB213_232 : mCodeT := [(232, .aload_n 0, []), (233, .invokevirtual 200, [0, 192, 0, 10]), (236, .ifCond .ne 18, []), (239, .aload_n 0, []), (240, .getfield 53, [10, 21]), (243, .iconst 0, []), (244, .dup2, []), (245, .iaload, []), (246, .iconst 1, []), (247, .iadd, []), (248, .iastore, []), (249, .aload_n 0, []), (250, .getfield 197, [10, 19]), (253, .ireturn, [])]
set_option maxRecDepth 20000 in
def mB213_254 : mCodeT := [(254, .aload_n 0, []), (255, .aload_n 0, []), (256, .getfield 270, [10, 30]), (259, .putfield 7, [10, 1]), (262, .aload_n 0, []), (263, .aload_n 0, []), (264, .getfield 277, [10, 31]), (267, .putfield 13, [10, 2]), (270, .aload_n 0, []), (271, .aload_n 0, []), (272, .getfield 295, [10, 32]), (275, .putfield 339, [10, 3]), (278, .aload_n 0, []), (279, .aload_n 0, []), (280, .getfield 307, [10, 33]), (283, .putfield 342, [10, 4]), (286, .aload_n 0, []), (287, .aload_n 0, []), (288, .getfield 310, [10, 34]), (291, .putfield 16, [10, 5]), (294, .aload_n 0, []), (295, .aload_n 0, []), (296, .getfield 313, [10, 35]), (299, .putfield 19, [10, 6]), (302, .aload_n 0, []), (303, .aload_n 0, []), (304, .getfield 329, [10, 36]), (307, .putfield 345, [10, 7]), (310, .aload_n 0, []), (311, .aload_n 0, []), (312, .getfield 283, [10, 37]), (315, .putfield 348, [10, 8]), (318, .aload_n 0, []), (319, .aload_n 0, []), (320, .getfield 319, [10, 38]), (323, .putfield 22, [10, 9]), (326, .aload_n 0, []), (327, .aload_n 0, []), (328, .getfield 326, [10, 39]), (331, .putfield 25, [10, 10]), (334, .aload_n 0, []), (335, .aload_n 0, []), (336, .getfield 56, [10, 49]), (339, .aload_n 0, []), (340, .getfield 28, [10, 11]), (343, .invokevirtual 351, [0, 180, 2, 10]), (346, .aload_n 0, []), (347, .aload_n 0, []), (348, .getfield 59, [10, 50]), (351, .aload_n 0, []), (352, .getfield 32, [10, 12]), (355, .invokevirtual 351, [0, 180, 2, 10]), (358, .aload_n 0, []), (359, .aload_n 0, []), (360, .getfield 62, [10, 51]), (363, .aload_n 0, []), (364, .getfield 35, [10, 13]), (367, .invokevirtual 351, [0, 180, 2, 10]), (370, .aload_n 0, []), (371, .aload_n 0, []), (372, .getfield 74, [10, 55]), (375, .aload_n 0, []), (376, .getfield 38, [10, 14]), (379, .invokevirtual 351, [0, 180, 2, 10]), (382, .aload_n 0, []), (383, .aload_n 0, []), (384, .getfield 77, [10, 56]), (387, .aload_n 0, []), (388, .getfield 41, [10, 15]), (391, .invokevirtual 351, [0, 180, 2, 10]), (394, .aload_n 0, []), (395, .aload_n 0, []), (396, .getfield 80, [10, 57]), (399, .aload_n 0, []), (400, .getfield 44, [10, 16]), (403, .invokevirtual 351, [0, 180, 2, 10]), (406, .iconst 0, []), (407, .istore_n 2, [])]
set_option maxRecDepth 20000 in
def mB213_408 : mCodeT := [(408, .iload_n 2, []), (409, .bipush 12, []), (411, .if_icmp .ge 53, []), (414, .aload_n 0, []), (415, .getfield 90, [10, 60]), (418, .iconst 0, []), (419, .iload_n 2, []), (420, .iadd, []), (421, .aload_n 0, []), (422, .getfield 65, [10, 52]), (425, .iload_n 2, []), (426, .iaload, []), (427, .iastore, []), (428, .aload_n 0, []), (429, .getfield 90, [10, 60]), (432, .bipush 12, []), (434, .iload_n 2, []), (435, .iadd, []), (436, .aload_n 0, []), (437, .getfield 68, [10, 53]), (440, .iload_n 2, []), (441, .iaload, []), (442, .iastore, []), (443, .aload_n 0, []), (444, .getfield 90, [10, 60]), (447, .bipush 24, []), (449, .iload_n 2, []), (450, .iadd, []), (451, .aload_n 0, []), (452, .getfield 71, [10, 54]), (455, .iload_n 2, []), (456, .iaload, []), (457, .iastore, []), (458, .iinc 2 1, []), (461, .goto (-53), [])]
set_option maxRecDepth 20000 in
def mB213_464 : mCodeT := [(464, .aload_n 0, []), (465, .getfield 90, [10, 60]), (468, .bipush 36, []), (470, .aload_n 0, []), (471, .getfield 304, [10, 40]), (474, .iastore, []), (475, .aload_n 0, []), (476, .getfield 90, [10, 60]), (479, .bipush 37, []), (481, .iconst 0, []), (482, .iastore, []), (483, .aload_n 0, []), (484, .iconst 0, []), (485, .putfield 355, [10, 63]), (488, .aload_n 0, []), (489, .iconst 0, []), (490, .putfield 358, [10, 74]), (493, .aload_n 0, []), (494, .iconst 0, []), (495, .putfield 361, [10, 75]), (498, .aload_n 0, []), (499, .iconst (-1), []), (500, .putfield 114, [10, 71]), (503, .aload_n 0, []), (504, .iconst 0, []), (505, .putfield 364, [10, 79]), (508, .iconst 0, []), (509, .ireturn, [])]
set_option maxRecDepth 20000 in
def mC213_0 : mCodeT := mB213_0 ++ (mB213_22 ++ (mB213_23))
set_option maxRecDepth 20000 in
def mC213_1 : mCodeT := mB213_32
set_option maxRecDepth 20000 in
def mC213_2 : mCodeT := mB213_137 ++ (mB213_163 ++ (mB213_211))
set_option maxRecDepth 20000 in
def mC213_3 : mCodeT := mB213_232
set_option maxRecDepth 20000 in
def mC213_4 : mCodeT := mB213_254
set_option maxRecDepth 20000 in
def mC213_5 : mCodeT := mB213_408
set_option maxRecDepth 20000 in
def mC213_6 : mCodeT := mB213_464
set_option maxRecDepth 20000 in
def mC213 : mCodeT := mC213_0 ++ (mC213_1 ++ (mC213_2 ++ (mC213_3 ++ (mC213_4 ++ (mC213_5 ++ (mC213_6))))))
def mM213 : mRec := (yX12_lanes, cX12_lanes, 3, (some .int), [], [], mC213)
-- LaneEyesModel.fault()I
set_option maxRecDepth 20000 in
def mB214_0 : mCodeT := [(0, .aload_n 0, []), (1, .iconst 0, []), (2, .putfield 141, [10, 0]), (5, .aload_n 0, []), (6, .getfield 50, [10, 20]), (9, .ireturn, [])]
set_option maxRecDepth 20000 in
def mC214 : mCodeT := mB214_0
def mM214 : mRec := (yX12_fault, cX12_fault, 1, (some .int), [], [], mC214)
-- LaneEyesModel.keeps()V
set_option maxRecDepth 20000 in
def mB215_0 : mCodeT := [(0, .aload_n 0, []), (1, .getfield 355, [10, 63]), (4, .bipush 40, []), (6, .if_icmp .ne 44, []), (9, .bipush 38, []), (11, .istore_n 1, [])]
set_option maxRecDepth 20000 in
def mB215_12 : mCodeT := [(12, .iload_n 1, []), (13, .sipush 1520, []), (16, .if_icmp .ge 24, []), (19, .aload_n 0, []), (20, .getfield 96, [10, 62]), (23, .iload_n 1, []), (24, .bipush 38, []), (26, .isub, []), (27, .aload_n 0, []), (28, .getfield 96, [10, 62]), (31, .iload_n 1, []), (32, .iaload, []), (33, .iastore, []), (34, .iinc 1 1, []), (37, .goto (-25), [])]
set_option maxRecDepth 20000 in
def mB215_40 : mCodeT := [(40, .aload_n 0, []), (41, .dup, []), (42, .getfield 355, [10, 63]), (45, .iconst 1, []), (46, .isub, []), (47, .putfield 355, [10, 63])]
set_option maxRecDepth 20000 in
def mB215_50 : mCodeT := [(50, .iconst 0, []), (51, .istore_n 1, [])]
set_option maxRecDepth 20000 in
def mB215_52 : mCodeT := [(52, .iload_n 1, []), (53, .bipush 38, []), (55, .if_icmp .ge 29, []), (58, .aload_n 0, []), (59, .getfield 96, [10, 62]), (62, .bipush 38, []), (64, .aload_n 0, []), (65, .getfield 355, [10, 63]), (68, .imul, []), (69, .iload_n 1, []), (70, .iadd, []), (71, .aload_n 0, []), (72, .getfield 90, [10, 60]), (75, .iload_n 1, []), (76, .iaload, []), (77, .iastore, []), (78, .iinc 1 1, []), (81, .goto (-29), [])]
set_option maxRecDepth 20000 in
def mB215_84 : mCodeT := [(84, .aload_n 0, []), (85, .dup, []), (86, .getfield 355, [10, 63]), (89, .iconst 1, []), (90, .iadd, []), (91, .putfield 355, [10, 63]), (94, .return_, [])]
set_option maxRecDepth 20000 in
def mC215 : mCodeT := mB215_0 ++ (mB215_12 ++ (mB215_40 ++ (mB215_50 ++ (mB215_52 ++ (mB215_84)))))
def mM215 : mRec := (yX12_keeps, cX12_keeps, 2, none, [], [], mC215)
-- LaneEyesModel.refuses(I)I
set_option maxRecDepth 20000 in
def mB216_0 : mCodeT := [(0, .aload_n 0, []), (1, .getfield 53, [10, 21]), (4, .iload_n 1, []), (5, .dup2, []), (6, .iaload, []), (7, .iconst 1, []), (8, .iadd, []), (9, .iastore, []), (10, .iconst (-1), []), (11, .ireturn, [])]
set_option maxRecDepth 20000 in
def mC216 : mCodeT := mB216_0
def mM216 : mRec := (yX12_refuses, cX12_refuses, 2, (some .int), [], [], mC216)
-- LaneEyesModel.undo()I
set_option maxRecDepth 20000 in
def mB217_0 : mCodeT := [(0, .aload_n 0, []), (1, .iconst 0, []), (2, .putfield 141, [10, 0]), (5, .aload_n 0, []), (6, .getfield 355, [10, 63]), (9, .ifCond .ne 5, []), (12, .iconst (-1), []), (13, .ireturn, [])]
set_option maxRecDepth 20000 in
def mB217_14 : mCodeT := [(14, .aload_n 0, []), (15, .dup, []), (16, .getfield 355, [10, 63]), (19, .iconst 1, []), (20, .isub, []), (21, .putfield 355, [10, 63]), (24, .iconst 0, []), (25, .istore_n 1, [])]
set_option maxRecDepth 20000 in
def mB217_26 : mCodeT := [(26, .iload_n 1, []), (27, .bipush 38, []), (29, .if_icmp .ge 29, []), (32, .aload_n 0, []), (33, .getfield 90, [10, 60]), (36, .iload_n 1, []), (37, .aload_n 0, []), (38, .getfield 96, [10, 62]), (41, .bipush 38, []), (43, .aload_n 0, []), (44, .getfield 355, [10, 63]), (47, .imul, []), (48, .iload_n 1, []), (49, .iadd, []), (50, .iaload, []), (51, .iastore, []), (52, .iinc 1 1, []), (55, .goto (-29), [])]
set_option maxRecDepth 20000 in
def mB217_58 : mCodeT := [(58, .aload_n 0, []), (59, .getfield 355, [10, 63]), (62, .ireturn, [])]
set_option maxRecDepth 20000 in
def mC217 : mCodeT := mB217_0 ++ (mB217_14 ++ (mB217_26 ++ (mB217_58)))
def mM217 : mRec := (yX12_undo, cX12_undo, 2, (some .int), [], [], mC217)
-- LaneEyesModel.cells()I
set_option maxRecDepth 20000 in
def mB218_0 : mCodeT := [(0, .aload_n 0, []), (1, .getfield 7, [10, 1]), (4, .aload_n 0, []), (5, .getfield 13, [10, 2]), (8, .imul, []), (9, .ireturn, [])]
set_option maxRecDepth 20000 in
def mC218 : mCodeT := mB218_0
def mM218 : mRec := (yX12_cells, cX12_cells, 1, (some .int), [], [], mC218)
-- LaneEyesModel.roundOf()I
set_option maxRecDepth 20000 in
def mB219_0 : mCodeT := [(0, .iconst 0, []), (1, .istore_n 1, []), (2, .iconst 0, []), (3, .istore_n 2, [])]
set_option maxRecDepth 20000 in
def mB219_4 : mCodeT := [(4, .iload_n 2, []), (5, .aload_n 0, []), (6, .getfield 342, [10, 4]), (9, .if_icmp .ge 21, []), (12, .iload_n 1, []), (13, .aload_n 0, []), (14, .getfield 90, [10, 60]), (17, .bipush 24, []), (19, .iload_n 2, []), (20, .iadd, []), (21, .iaload, []), (22, .iadd, []), (23, .istore_n 1, []), (24, .iinc 2 1, []), (27, .goto (-23), [])]
set_option maxRecDepth 20000 in
def mB219_30 : mCodeT := [(30, .iload_n 1, []), (31, .ireturn, [])]
set_option maxRecDepth 20000 in
def mC219 : mCodeT := mB219_0 ++ (mB219_4 ++ (mB219_30))
def mM219 : mRec := (yX12_roundOf, cX12_roundOf, 3, (some .int), [], [], mC219)
-- LaneEyesModel.works(III)I
set_option maxRecDepth 20000 in
def mB220_0 : mCodeT := [(0, .iload_n 0, []), (1, .tableswitch 105 4 10 #[43, 57, 71, 82, 93, 97, 101], [])]
set_option maxRecDepth 20000 in
def mB220_44 : mCodeT := [(44, .iload_n 1, []), (45, .ifCond .eq 11, []), (48, .iload_n 2, []), (49, .ifCond .eq 7, []), (52, .iconst 1, []), (53, .goto 4, [])]
set_option maxRecDepth 20000 in
def mB220_56 : mCodeT := [(56, .iconst 0, [])]
set_option maxRecDepth 20000 in
def mB220_57 : mCodeT := [(57, .ireturn, [])]
set_option maxRecDepth 20000 in
def mB220_58 : mCodeT := [(58, .iload_n 1, []), (59, .ifCond .ne 7, []), (62, .iload_n 2, []), (63, .ifCond .eq 7, [])]
set_option maxRecDepth 20000 in
def mB220_66 : mCodeT := [(66, .iconst 1, []), (67, .goto 4, [])]
set_option maxRecDepth 20000 in
def mB220_70 : mCodeT := [(70, .iconst 0, [])]
set_option maxRecDepth 20000 in
def mB220_71 : mCodeT := [(71, .ireturn, [])]
set_option maxRecDepth 20000 in
def mB220_72 : mCodeT := [(72, .iload_n 1, []), (73, .iload_n 2, []), (74, .if_icmp .ge 7, []), (77, .iconst 1, []), (78, .goto 4, [])]
set_option maxRecDepth 20000 in
def mB220_81 : mCodeT := [(81, .iconst 0, [])]
set_option maxRecDepth 20000 in
def mB220_82 : mCodeT := [(82, .ireturn, [])]
set_option maxRecDepth 20000 in
def mB220_83 : mCodeT := [(83, .iload_n 1, []), (84, .iload_n 2, []), (85, .if_icmp .ne 7, []), (88, .iconst 1, []), (89, .goto 4, [])]
set_option maxRecDepth 20000 in
def mB220_92 : mCodeT := [(92, .iconst 0, [])]
set_option maxRecDepth 20000 in
def mB220_93 : mCodeT := [(93, .ireturn, [])]
set_option maxRecDepth 20000 in
def mB220_94 : mCodeT := [(94, .iload_n 1, []), (95, .iload_n 2, []), (96, .iadd, []), (97, .ireturn, [])]
set_option maxRecDepth 20000 in
def mB220_98 : mCodeT := [(98, .iload_n 1, []), (99, .iload_n 2, []), (100, .isub, []), (101, .ireturn, [])]
set_option maxRecDepth 20000 in
def mB220_102 : mCodeT := [(102, .iload_n 1, []), (103, .iload_n 2, []), (104, .imul, []), (105, .ireturn, [])]
set_option maxRecDepth 20000 in
def mB220_106 : mCodeT := [(106, .iload_n 2, []), (107, .ifCond .ne 7, []), (110, .iconst 0, []), (111, .goto 6, [])]
set_option maxRecDepth 20000 in
def mB220_114 : mCodeT := [(114, .iload_n 1, []), (115, .iload_n 2, []), (116, .idiv, [])]
set_option maxRecDepth 20000 in
def mB220_117 : mCodeT := [(117, .ireturn, [])]
set_option maxRecDepth 20000 in
def mC220 : mCodeT := mB220_0 ++ (mB220_44 ++ (mB220_56 ++ (mB220_57 ++ (mB220_58 ++ (mB220_66 ++ (mB220_70 ++ (mB220_71 ++ (mB220_72 ++ (mB220_81 ++ (mB220_82 ++ (mB220_83 ++ (mB220_92 ++ (mB220_93 ++ (mB220_94 ++ (mB220_98 ++ (mB220_102 ++ (mB220_106 ++ (mB220_114 ++ (mB220_117)))))))))))))))))))
def mM220 : mRec := (yX12_works, cX12_works, 3, (some .int), [], [], mC220)
-- LaneEyesModel.reckons(I)I
set_option maxRecDepth 20000 in
def mB221_0 : mCodeT := [(0, .iconst 0, []), (1, .istore_n 2, []), (2, .iload_n 1, []), (3, .istore_n 3, [])]
set_option maxRecDepth 20000 in
def mB221_4 : mCodeT := [(4, .aload_n 0, []), (5, .getfield 44, [10, 16]), (8, .iload_n 3, []), (9, .iaload, []), (10, .ifCond .eq 133, []), (13, .aload_n 0, []), (14, .getfield 44, [10, 16]), (17, .iload_n 3, []), (18, .iaload, []), (19, .istore 4, []), (21, .iinc 3 1, []), (24, .iload 4, []), (26, .iconst 1, []), (27, .if_icmp .eq 9, []), (30, .iload 4, []), (32, .iconst 2, []), (33, .if_icmp .ne 44, [])]
set_option maxRecDepth 20000 in
def mB221_36 : mCodeT := [(36, .aload_n 0, []), (37, .getfield 102, [10, 65]), (40, .iload_n 2, []), (41, .iload 4, []), (43, .iconst 1, []), (44, .if_icmp .ne 12, []), (47, .aload_n 0, []), (48, .getfield 44, [10, 16]), (51, .iload_n 3, []), (52, .iaload, []), (53, .goto 14, [])]
set_option maxRecDepth 20000 in
def mB221_56 : mCodeT := [(56, .aload_n 0, []), (57, .getfield 99, [10, 64]), (60, .aload_n 0, []), (61, .getfield 44, [10, 16]), (64, .iload_n 3, []), (65, .iaload, []), (66, .iaload, [])]
set_option maxRecDepth 20000 in
def mB221_67 : mCodeT := [(67, .iastore, []), (68, .iinc 3 1, []), (71, .iinc 2 1, []), (74, .goto 66, [])]
set_option maxRecDepth 20000 in
def mB221_77 : mCodeT := [(77, .iload 4, []), (79, .iconst 3, []), (80, .if_icmp .ne 30, []), (83, .aload_n 0, []), (84, .getfield 102, [10, 65]), (87, .iload_n 2, []), (88, .iconst 1, []), (89, .isub, []), (90, .aload_n 0, []), (91, .getfield 102, [10, 65]), (94, .iload_n 2, []), (95, .iconst 1, []), (96, .isub, []), (97, .iaload, []), (98, .ifCond .ne 7, []), (101, .iconst 1, []), (102, .goto 4, [])]
set_option maxRecDepth 20000 in
def mB221_105 : mCodeT := [(105, .iconst 0, [])]
set_option maxRecDepth 20000 in
def mB221_106 : mCodeT := [(106, .iastore, []), (107, .goto 33, [])]
set_option maxRecDepth 20000 in
def mB221_110 : mCodeT := [(110, .iinc 2 (-1), []), (113, .aload_n 0, []), (114, .getfield 102, [10, 65]), (117, .iload_n 2, []), (118, .iconst 1, []), (119, .isub, []), (120, .iload 4, []), (122, .aload_n 0, []), (123, .getfield 102, [10, 65]), (126, .iload_n 2, []), (127, .iconst 1, []), (128, .isub, []), (129, .iaload, []), (130, .aload_n 0, []), (131, .getfield 102, [10, 65]), (134, .iload_n 2, []), (135, .iaload, []), (136, .invokestatic 368, [1, 220, 3]), (139, .iastore, [])]
set_option maxRecDepth 20000 in
def mB221_140 : mCodeT := [(140, .goto (-136), [])]
set_option maxRecDepth 20000 in
def mB221_143 : mCodeT := [(143, .aload_n 0, []), (144, .getfield 102, [10, 65]), (147, .iconst 0, []), (148, .iaload, []), (149, .ireturn, [])]
set_option maxRecDepth 20000 in
def mC221 : mCodeT := mB221_0 ++ (mB221_4 ++ (mB221_36 ++ (mB221_56 ++ (mB221_67 ++ (mB221_77 ++ (mB221_105 ++ (mB221_106 ++ (mB221_110 ++ (mB221_140 ++ (mB221_143))))))))))
def mM221 : mRec := (yX12_reckons, cX12_reckons, 5, (some .int), [], [], mC221)
-- LaneEyesModel.farOf(I)I
set_option maxRecDepth 20000 in
def mB222_0 : mCodeT := [(0, .iload_n 1, []), (1, .aload_n 0, []), (2, .getfield 7, [10, 1]), (5, .irem, []), (6, .aload_n 0, []), (7, .getfield 90, [10, 60]), (10, .bipush 36, []), (12, .iaload, []), (13, .aload_n 0, []), (14, .getfield 7, [10, 1]), (17, .irem, []), (18, .invokestatic 372, [1, 179, 2]), (21, .iload_n 1, []), (22, .aload_n 0, []), (23, .getfield 7, [10, 1]), (26, .idiv, []), (27, .aload_n 0, []), (28, .getfield 90, [10, 60]), (31, .bipush 36, []), (33, .iaload, []), (34, .aload_n 0, []), (35, .getfield 7, [10, 1]), (38, .idiv, []), (39, .invokestatic 372, [1, 179, 2]), (42, .iadd, []), (43, .ireturn, [])]
set_option maxRecDepth 20000 in
def mC222 : mCodeT := mB222_0
def mM222 : mRec := (yX12_farOf, cX12_farOf, 2, (some .int), [], [], mC222)
-- LaneEyesModel.whoIn(I)I
set_option maxRecDepth 20000 in
def mB223_0 : mCodeT := [(0, .iconst 0, []), (1, .istore_n 2, []), (2, .iconst 0, []), (3, .istore_n 3, [])]
set_option maxRecDepth 20000 in
def mB223_4 : mCodeT := [(4, .iload_n 3, []), (5, .aload_n 0, []), (6, .getfield 339, [10, 3]), (9, .if_icmp .ge 31, []), (12, .iload_n 2, []), (13, .aload_n 0, []), (14, .getfield 90, [10, 60]), (17, .iconst 0, []), (18, .iload_n 3, []), (19, .iadd, []), (20, .iaload, []), (21, .iload_n 1, []), (22, .if_icmp .ne 9, []), (25, .iconst 1, []), (26, .iload_n 3, []), (27, .ishl, []), (28, .goto 4, [])]
set_option maxRecDepth 20000 in
def mB223_31 : mCodeT := [(31, .iconst 0, [])]
set_option maxRecDepth 20000 in
def mB223_32 : mCodeT := [(32, .ior, []), (33, .istore_n 2, []), (34, .iinc 3 1, []), (37, .goto (-33), [])]
set_option maxRecDepth 20000 in
def mB223_40 : mCodeT := [(40, .iload_n 2, []), (41, .ireturn, [])]
set_option maxRecDepth 20000 in
def mC223 : mCodeT := mB223_0 ++ (mB223_4 ++ (mB223_31 ++ (mB223_32 ++ (mB223_40))))
def mM223 : mRec := (yX12_whoIn, cX12_whoIn, 4, (some .int), [], [], mC223)
-- LaneEyesModel.tells(I)V
set_option maxRecDepth 20000 in
def mB224_0 : mCodeT := [(0, .aload_n 0, []), (1, .iload_n 1, []), (2, .invokevirtual 375, [0, 223, 1, 10]), (5, .invokestatic 378, [1, 181, 1]), (8, .istore_n 2, []), (9, .aload_n 0, []), (10, .getfield 99, [10, 64]), (13, .iconst 1, []), (14, .aload_n 0, []), (15, .getfield 28, [10, 11]), (18, .iload_n 1, []), (19, .iaload, []), (20, .iastore, []), (21, .aload_n 0, []), (22, .getfield 99, [10, 64]), (25, .iconst 2, []), (26, .aload_n 0, []), (27, .getfield 32, [10, 12]), (30, .iload_n 1, []), (31, .iaload, []), (32, .iastore, []), (33, .aload_n 0, []), (34, .getfield 99, [10, 64]), (37, .iconst 3, []), (38, .aload_n 0, []), (39, .iload_n 1, []), (40, .invokevirtual 381, [0, 222, 1, 10]), (43, .iastore, []), (44, .aload_n 0, []), (45, .getfield 99, [10, 64]), (48, .iconst 4, []), (49, .iload_n 2, []), (50, .ifCond .le 12, []), (53, .iload_n 2, []), (54, .aload_n 0, []), (55, .getfield 384, [10, 66]), (58, .iadd, []), (59, .goto 4, [])]
set_option maxRecDepth 20000 in
def mB224_62 : mCodeT := [(62, .iconst 0, [])]
set_option maxRecDepth 20000 in
def mB224_63 : mCodeT := [(63, .iastore, []), (64, .aload_n 0, []), (65, .getfield 99, [10, 64]), (68, .iconst 0, []), (69, .aload_n 0, []), (70, .getfield 90, [10, 60]), (73, .bipush 37, []), (75, .iaload, []), (76, .aload_n 0, []), (77, .getfield 19, [10, 6]), (80, .idiv, []), (81, .iastore, []), (82, .return_, [])]
set_option maxRecDepth 20000 in
def mC224 : mCodeT := mB224_0 ++ (mB224_62 ++ (mB224_63))
def mM224 : mRec := (yX12_tells, cX12_tells, 3, none, [], [], mC224)
-- LaneEyesModel.needOf(I)I
set_option maxRecDepth 20000 in
def mB225_0 : mCodeT := [(0, .iconst 1, []), (1, .aload_n 0, []), (2, .iload_n 1, []), (3, .invokevirtual 381, [0, 222, 1, 10]), (6, .iconst 3, []), (7, .idiv, []), (8, .iadd, []), (9, .aload_n 0, []), (10, .getfield 32, [10, 12]), (13, .iload_n 1, []), (14, .iaload, []), (15, .iadd, []), (16, .istore_n 2, []), (17, .aload_n 0, []), (18, .getfield 22, [10, 9]), (21, .iconst (-1), []), (22, .if_icmp .eq 17, []), (25, .aload_n 0, []), (26, .iload_n 1, []), (27, .invokevirtual 387, [0, 224, 1, 10]), (30, .aload_n 0, []), (31, .aload_n 0, []), (32, .getfield 22, [10, 9]), (35, .invokevirtual 390, [0, 221, 1, 10]), (38, .istore_n 2, [])]
set_option maxRecDepth 20000 in
def mB225_39 : mCodeT := [(39, .iload_n 2, []), (40, .iconst 1, []), (41, .if_icmp .ge 7, []), (44, .iconst 1, []), (45, .goto 15, [])]
set_option maxRecDepth 20000 in
def mB225_48 : mCodeT := [(48, .iload_n 2, []), (49, .bipush 30, []), (51, .if_icmp .le 8, []), (54, .bipush 30, []), (56, .goto 4, [])]
set_option maxRecDepth 20000 in
def mB225_59 : mCodeT := [(59, .iload_n 2, [])]
set_option maxRecDepth 20000 in
def mB225_60 : mCodeT := [(60, .ireturn, [])]
set_option maxRecDepth 20000 in
def mC225 : mCodeT := mB225_0 ++ (mB225_39 ++ (mB225_48 ++ (mB225_59 ++ (mB225_60))))
def mM225 : mRec := (yX12_needOf, cX12_needOf, 3, (some .int), [], [], mC225)
-- LaneEyesModel.troubleOf(I)I
set_option maxRecDepth 20000 in
def mB226_0 : mCodeT := [(0, .bipush 10, []), (2, .aload_n 0, []), (3, .getfield 35, [10, 13]), (6, .iload_n 1, []), (7, .iaload, []), (8, .isub, []), (9, .istore_n 2, []), (10, .aload_n 0, []), (11, .getfield 25, [10, 10]), (14, .iconst (-1), []), (15, .if_icmp .eq 36, []), (18, .aload_n 0, []), (19, .aload_n 0, []), (20, .getfield 90, [10, 60]), (23, .iconst 0, []), (24, .iload_n 1, []), (25, .iadd, []), (26, .iaload, []), (27, .invokevirtual 387, [0, 224, 1, 10]), (30, .aload_n 0, []), (31, .getfield 99, [10, 64]), (34, .iconst 5, []), (35, .aload_n 0, []), (36, .getfield 35, [10, 13]), (39, .iload_n 1, []), (40, .iaload, []), (41, .iastore, []), (42, .aload_n 0, []), (43, .aload_n 0, []), (44, .getfield 25, [10, 10]), (47, .invokevirtual 390, [0, 221, 1, 10]), (50, .istore_n 2, [])]
set_option maxRecDepth 20000 in
def mB226_51 : mCodeT := [(51, .iload_n 2, []), (52, .ifCond .ge 7, []), (55, .iconst 0, []), (56, .goto 15, [])]
set_option maxRecDepth 20000 in
def mB226_59 : mCodeT := [(59, .iload_n 2, []), (60, .bipush 99, []), (62, .if_icmp .le 8, []), (65, .bipush 99, []), (67, .goto 4, [])]
set_option maxRecDepth 20000 in
def mB226_70 : mCodeT := [(70, .iload_n 2, [])]
set_option maxRecDepth 20000 in
def mB226_71 : mCodeT := [(71, .ireturn, [])]
set_option maxRecDepth 20000 in
def mC226 : mCodeT := mB226_0 ++ (mB226_51 ++ (mB226_59 ++ (mB226_70 ++ (mB226_71))))
def mM226 : mRec := (yX12_troubleOf, cX12_troubleOf, 3, (some .int), [], [], mC226)
-- LaneEyesModel.lays0(IIII)V
set_option maxRecDepth 20000 in
def mB227_0 : mCodeT := [(0, .aload_n 0, []), (1, .iconst 0, []), (2, .putfield 393, [10, 70]), (5, .iconst 0, []), (6, .istore 5, [])]
set_option maxRecDepth 20000 in
def mB227_8 : mCodeT := [(8, .iload 5, []), (10, .aload_n 0, []), (11, .getfield 342, [10, 4]), (14, .if_icmp .ge 130, []), (17, .aload_n 0, []), (18, .getfield 90, [10, 60]), (21, .bipush 12, []), (23, .iload 5, []), (25, .iadd, []), (26, .iaload, []), (27, .istore 6, []), (29, .iload 6, []), (31, .aload_n 0, []), (32, .getfield 7, [10, 1]), (35, .irem, []), (36, .iload_n 1, []), (37, .if_icmp .lt 59, []), (40, .iload 6, []), (42, .aload_n 0, []), (43, .getfield 7, [10, 1]), (46, .irem, []), (47, .iload_n 2, []), (48, .if_icmp .ge 48, []), (51, .iconst 0, []), (52, .istore 7, [])]
set_option maxRecDepth 20000 in
def mB227_54 : mCodeT := [(54, .iload 7, []), (56, .aload_n 0, []), (57, .getfield 90, [10, 60]), (60, .bipush 24, []), (62, .iload 5, []), (64, .iadd, []), (65, .iaload, []), (66, .if_icmp .ge 30, []), (69, .aload_n 0, []), (70, .getfield 105, [10, 67]), (73, .aload_n 0, []), (74, .getfield 393, [10, 70]), (77, .iload 6, []), (79, .iastore, []), (80, .aload_n 0, []), (81, .dup, []), (82, .getfield 393, [10, 70]), (85, .iconst 1, []), (86, .iadd, []), (87, .putfield 393, [10, 70]), (90, .iinc 7 1, []), (93, .goto (-39), [])]
set_option maxRecDepth 20000 in
def mB227_96 : mCodeT := [(96, .iconst 0, []), (97, .istore 7, [])]
set_option maxRecDepth 20000 in
def mB227_99 : mCodeT := [(99, .iload 7, []), (101, .iload 4, []), (103, .if_icmp .ge 35, []), (106, .iload 5, []), (108, .iload_n 3, []), (109, .if_icmp .ne 29, []), (112, .aload_n 0, []), (113, .getfield 105, [10, 67]), (116, .aload_n 0, []), (117, .getfield 393, [10, 70]), (120, .iconst (-1), []), (121, .iastore, []), (122, .aload_n 0, []), (123, .dup, []), (124, .getfield 393, [10, 70]), (127, .iconst 1, []), (128, .iadd, []), (129, .putfield 393, [10, 70]), (132, .iinc 7 1, []), (135, .goto (-36), [])]
set_option maxRecDepth 20000 in
def mB227_138 : mCodeT := [(138, .iinc 5 1, []), (141, .goto (-133), [])]
set_option maxRecDepth 20000 in
def mB227_144 : mCodeT := [(144, .return_, [])]
set_option maxRecDepth 20000 in
def mC227 : mCodeT := mB227_0 ++ (mB227_8 ++ (mB227_54 ++ (mB227_96 ++ (mB227_99 ++ (mB227_138 ++ (mB227_144))))))
def mM227 : mRec := (yX12_lays0, cX12_lays0, 8, none, [], [], mC227)
-- LaneEyesModel.laysAll()V
set_option maxRecDepth 20000 in
def mB228_0 : mCodeT := [(0, .aload_n 0, []), (1, .iconst 0, []), (2, .aload_n 0, []), (3, .getfield 7, [10, 1]), (6, .iconst (-1), []), (7, .iconst 0, []), (8, .invokevirtual 396, [0, 227, 4, 10]), (11, .return_, [])]
set_option maxRecDepth 20000 in
def mC228 : mCodeT := mB228_0
def mM228 : mRec := (yX12_laysAll, cX12_laysAll, 1, none, [], [], mC228)
-- LaneEyesModel.watches(II)V
set_option maxRecDepth 20000 in
def mB229_0 : mCodeT := [(0, .iconst 0, []), (1, .istore_n 3, []), (2, .iconst 0, []), (3, .istore 4, [])]
set_option maxRecDepth 20000 in
def mB229_5 : mCodeT := [(5, .iload 4, []), (7, .bipush 30, []), (9, .iconst 2, []), (10, .aload_n 0, []), (11, .getfield 393, [10, 70]), (14, .imul, []), (15, .iadd, []), (16, .if_icmp .ge 56, []), (19, .iload 4, []), (21, .aload_n 0, []), (22, .getfield 393, [10, 70]), (25, .irem, []), (26, .istore 5, []), (28, .aload_n 0, []), (29, .getfield 105, [10, 67]), (32, .iload 5, []), (34, .iaload, []), (35, .iload_n 1, []), (36, .if_icmp .eq 7, []), (39, .iconst 0, []), (40, .goto 17, [])]
set_option maxRecDepth 20000 in
def mB229_43 : mCodeT := [(43, .iload_n 3, []), (44, .bipush 30, []), (46, .if_icmp .ge 9, []), (49, .iload_n 3, []), (50, .iconst 1, []), (51, .iadd, []), (52, .goto 5, [])]
set_option maxRecDepth 20000 in
def mB229_55 : mCodeT := [(55, .bipush 30, [])]
set_option maxRecDepth 20000 in
def mB229_57 : mCodeT := [(57, .istore_n 3, []), (58, .aload_n 0, []), (59, .getfield 108, [10, 68]), (62, .iload 5, []), (64, .iload_n 3, []), (65, .iastore, []), (66, .iinc 4 1, []), (69, .goto (-64), [])]
set_option maxRecDepth 20000 in
def mB229_72 : mCodeT := [(72, .ldc_w 400, [1000000]), (75, .istore 4, []), (77, .iconst 2, []), (78, .aload_n 0, []), (79, .getfield 393, [10, 70]), (82, .imul, []), (83, .bipush 29, []), (85, .iadd, []), (86, .istore 5, [])]
set_option maxRecDepth 20000 in
def mB229_88 : mCodeT := [(88, .iload 5, []), (90, .ifCond .lt 38, []), (93, .aload_n 0, []), (94, .getfield 108, [10, 68]), (97, .iload 5, []), (99, .aload_n 0, []), (100, .getfield 393, [10, 70]), (103, .irem, []), (104, .iaload, []), (105, .iload_n 2, []), (106, .if_icmp .lt 7, []), (109, .iload 5, []), (111, .istore 4, [])]
set_option maxRecDepth 20000 in
def mB229_113 : mCodeT := [(113, .aload_n 0, []), (114, .getfield 111, [10, 69]), (117, .iload 5, []), (119, .iload 4, []), (121, .iastore, []), (122, .iinc 5 (-1), []), (125, .goto (-37), [])]
set_option maxRecDepth 20000 in
def mB229_128 : mCodeT := [(128, .return_, [])]
set_option maxRecDepth 20000 in
def mC229 : mCodeT := mB229_0 ++ (mB229_5 ++ (mB229_43 ++ (mB229_55 ++ (mB229_57 ++ (mB229_72 ++ (mB229_88 ++ (mB229_113 ++ (mB229_128))))))))
def mM229 : mRec := (yX12_watches, cX12_watches, 6, none, [], [], mC229)
-- LaneEyesModel.delayFrom(II)I
set_option maxRecDepth 20000 in
def mB230_0 : mCodeT := [(0, .aload_n 0, []), (1, .getfield 111, [10, 69]), (4, .iload_n 1, []), (5, .iload_n 2, []), (6, .iadd, []), (7, .iconst 1, []), (8, .isub, []), (9, .iaload, []), (10, .istore_n 3, []), (11, .iload_n 3, []), (12, .ldc_w 400, [1000000]), (15, .if_icmp .ne 9, []), (18, .ldc_w 400, [1000000]), (21, .goto 8, [])]
set_option maxRecDepth 20000 in
def mB230_24 : mCodeT := [(24, .iload_n 3, []), (25, .iload_n 1, []), (26, .isub, []), (27, .iconst 1, []), (28, .iadd, [])]
set_option maxRecDepth 20000 in
def mB230_29 : mCodeT := [(29, .ireturn, [])]
set_option maxRecDepth 20000 in
def mC230 : mCodeT := mB230_0 ++ (mB230_24 ++ (mB230_29))
def mM230 : mRec := (yX12_delayFrom, cX12_delayFrom, 4, (some .int), [], [], mC230)
-- LaneEyesModel.worstOf(I)I
set_option maxRecDepth 20000 in
def mB231_0 : mCodeT := [(0, .aload_n 0, []), (1, .getfield 393, [10, 70]), (4, .ifCond .ne 7, []), (7, .ldc_w 400, [1000000]), (10, .ireturn, [])]
set_option maxRecDepth 20000 in
def mB231_11 : mCodeT := [(11, .aload_n 0, []), (12, .iload_n 1, []), (13, .invokevirtual 401, [0, 225, 1, 10]), (16, .istore_n 2, []), (17, .aload_n 0, []), (18, .iload_n 1, []), (19, .iload_n 2, []), (20, .invokevirtual 404, [0, 229, 2, 10]), (23, .iconst 0, []), (24, .istore_n 3, []), (25, .iconst 0, []), (26, .istore 4, [])]
set_option maxRecDepth 20000 in
def mB231_28 : mCodeT := [(28, .iload 4, []), (30, .aload_n 0, []), (31, .getfield 393, [10, 70]), (34, .if_icmp .ge 32, []), (37, .aload_n 0, []), (38, .iload 4, []), (40, .iload_n 2, []), (41, .invokevirtual 407, [0, 230, 2, 10]), (44, .iload_n 3, []), (45, .if_icmp .le 13, []), (48, .aload_n 0, []), (49, .iload 4, []), (51, .iload_n 2, []), (52, .invokevirtual 407, [0, 230, 2, 10]), (55, .goto 4, [])]
set_option maxRecDepth 20000 in
def mB231_58 : mCodeT := [(58, .iload_n 3, [])]
set_option maxRecDepth 20000 in
def mB231_59 : mCodeT := [(59, .istore_n 3, []), (60, .iinc 4 1, []), (63, .goto (-35), [])]
set_option maxRecDepth 20000 in
def mB231_66 : mCodeT := [(66, .iload_n 3, []), (67, .ireturn, [])]
set_option maxRecDepth 20000 in
def mC231 : mCodeT := mB231_0 ++ (mB231_11 ++ (mB231_28 ++ (mB231_58 ++ (mB231_59 ++ (mB231_66)))))
def mM231 : mRec := (yX12_worstOf, cX12_worstOf, 5, (some .int), [], [], mC231)
-- LaneEyesModel.isIn(III)Z
set_option maxRecDepth 20000 in
def mB232_0 : mCodeT := [(0, .aload_n 0, []), (1, .iload_n 1, []), (2, .invokevirtual 375, [0, 223, 1, 10]), (5, .ifCond .eq 27, []), (8, .iload_n 1, []), (9, .aload_n 0, []), (10, .getfield 7, [10, 1]), (13, .irem, []), (14, .iload_n 2, []), (15, .if_icmp .lt 17, []), (18, .iload_n 1, []), (19, .aload_n 0, []), (20, .getfield 7, [10, 1]), (23, .irem, []), (24, .iload_n 3, []), (25, .if_icmp .ge 7, []), (28, .iconst 1, []), (29, .goto 4, [])]
set_option maxRecDepth 20000 in
def mB232_32 : mCodeT := [(32, .iconst 0, [])]
set_option maxRecDepth 20000 in
def mB232_33 : mCodeT := [(33, .ireturn, [])]
set_option maxRecDepth 20000 in
def mC232 : mCodeT := mB232_0 ++ (mB232_32 ++ (mB232_33))
def mM232 : mRec := (yX12_isIn, cX12_isIn, 4, (some .boolean), [], [], mC232)
-- LaneEyesModel.worstIn(II)I
set_option maxRecDepth 20000 in
def mB233_0 : mCodeT := [(0, .iconst 0, []), (1, .istore_n 3, []), (2, .iconst 0, []), (3, .istore 4, [])]
set_option maxRecDepth 20000 in
def mB233_5 : mCodeT := [(5, .iload 4, []), (7, .aload_n 0, []), (8, .invokevirtual 410, [0, 218, 0, 10]), (11, .if_icmp .ge 44, []), (14, .aload_n 0, []), (15, .iload 4, []), (17, .iload_n 1, []), (18, .iload_n 2, []), (19, .invokevirtual 413, [0, 232, 3, 10]), (22, .ifCond .ne 6, []), (25, .goto 24, [])]
set_option maxRecDepth 20000 in
def mB233_28 : mCodeT := [(28, .aload_n 0, []), (29, .iload 4, []), (31, .invokevirtual 417, [0, 231, 1, 10]), (34, .istore 5, []), (36, .iload 5, []), (38, .iload_n 3, []), (39, .if_icmp .le 8, []), (42, .iload 5, []), (44, .goto 4, [])]
set_option maxRecDepth 20000 in
def mB233_47 : mCodeT := [(47, .iload_n 3, [])]
set_option maxRecDepth 20000 in
def mB233_48 : mCodeT := [(48, .istore_n 3, [])]
set_option maxRecDepth 20000 in
def mB233_49 : mCodeT := [(49, .iinc 4 1, []), (52, .goto (-47), [])]
set_option maxRecDepth 20000 in
def mB233_55 : mCodeT := [(55, .iload_n 3, []), (56, .ireturn, [])]
set_option maxRecDepth 20000 in
def mC233 : mCodeT := mB233_0 ++ (mB233_5 ++ (mB233_28 ++ (mB233_47 ++ (mB233_48 ++ (mB233_49 ++ (mB233_55))))))
def mM233 : mRec := (yX12_worstIn, cX12_worstIn, 6, (some .int), [], [], mC233)
-- LaneEyesModel.worstAll()I
set_option maxRecDepth 20000 in
def mB234_0 : mCodeT := [(0, .aload_n 0, []), (1, .invokevirtual 420, [0, 228, 0, 10]), (4, .aload_n 0, []), (5, .iconst 0, []), (6, .aload_n 0, []), (7, .getfield 7, [10, 1]), (10, .invokevirtual 423, [0, 233, 2, 10]), (13, .ireturn, [])]
set_option maxRecDepth 20000 in
def mC234 : mCodeT := mB234_0
def mM234 : mRec := (yX12_worstAll, cX12_worstAll, 1, (some .int), [], [], mC234)
-- LaneEyesModel.shown(I)I
set_option maxRecDepth 20000 in
def mB235_0 : mCodeT := [(0, .iload_n 0, []), (1, .ldc_w 400, [1000000]), (4, .if_icmp .lt 7, []), (7, .iconst (-1), []), (8, .goto 4, [])]
set_option maxRecDepth 20000 in
def mB235_11 : mCodeT := [(11, .iload_n 0, [])]
set_option maxRecDepth 20000 in
def mB235_12 : mCodeT := [(12, .ireturn, [])]
set_option maxRecDepth 20000 in
def mC235 : mCodeT := mB235_0 ++ (mB235_11 ++ (mB235_12))
def mM235 : mRec := (yX12_shown, cX12_shown, 1, (some .int), [], [], mC235)
-- LaneEyesModel.cellsLooked()I
set_option maxRecDepth 20000 in
def mB236_0 : mCodeT := [(0, .iconst 0, []), (1, .istore_n 1, []), (2, .iconst 0, []), (3, .istore_n 2, [])]
set_option maxRecDepth 20000 in
def mB236_4 : mCodeT := [(4, .iload_n 2, []), (5, .aload_n 0, []), (6, .invokevirtual 410, [0, 218, 0, 10]), (9, .if_icmp .ge 65, []), (12, .iconst 0, []), (13, .istore_n 3, []), (14, .iconst 0, []), (15, .istore 4, [])]
set_option maxRecDepth 20000 in
def mB236_17 : mCodeT := [(17, .iload 4, []), (19, .aload_n 0, []), (20, .getfield 342, [10, 4]), (23, .if_icmp .ge 33, []), (26, .iload_n 3, []), (27, .ifCond .ne 17, []), (30, .aload_n 0, []), (31, .getfield 90, [10, 60]), (34, .bipush 12, []), (36, .iload 4, []), (38, .iadd, []), (39, .iaload, []), (40, .iload_n 2, []), (41, .if_icmp .ne 7, [])]
set_option maxRecDepth 20000 in
def mB236_44 : mCodeT := [(44, .iconst 1, []), (45, .goto 4, [])]
set_option maxRecDepth 20000 in
def mB236_48 : mCodeT := [(48, .iconst 0, [])]
set_option maxRecDepth 20000 in
def mB236_49 : mCodeT := [(49, .istore_n 3, []), (50, .iinc 4 1, []), (53, .goto (-36), [])]
set_option maxRecDepth 20000 in
def mB236_56 : mCodeT := [(56, .iload_n 1, []), (57, .iload_n 3, []), (58, .ifCond .eq 7, []), (61, .iconst 1, []), (62, .goto 4, [])]
set_option maxRecDepth 20000 in
def mB236_65 : mCodeT := [(65, .iconst 0, [])]
set_option maxRecDepth 20000 in
def mB236_66 : mCodeT := [(66, .iadd, []), (67, .istore_n 1, []), (68, .iinc 2 1, []), (71, .goto (-67), [])]
set_option maxRecDepth 20000 in
def mB236_74 : mCodeT := [(74, .iload_n 1, []), (75, .ireturn, [])]
set_option maxRecDepth 20000 in
def mC236 : mCodeT := mB236_0 ++ (mB236_4 ++ (mB236_17 ++ (mB236_44 ++ (mB236_48 ++ (mB236_49 ++ (mB236_56 ++ (mB236_65 ++ (mB236_66 ++ (mB236_74)))))))))
def mM236 : mRec := (yX12_cellsLooked, cX12_cellsLooked, 5, (some .int), [], [], mC236)
-- LaneEyesModel.count(I)I
set_option maxRecDepth 20000 in
def mB237_0 : mCodeT := [(0, .aload_n 0, []), (1, .iconst 0, []), (2, .putfield 141, [10, 0]), (5, .aload_n 0, []), (6, .iload_n 1, []), (7, .iconst 0, []), (8, .bipush 18, []), (10, .invokestatic 426, [1, 178, 3]), (13, .iconst 1, []), (14, .invokevirtual 332, [0, 177, 2, 10]), (17, .ifCond .ne 5, []), (20, .iconst 0, []), (21, .ireturn, [])]
set_option maxRecDepth 20000 in
def mB237_22 : mCodeT := [(22, .iload_n 1, []), (23, .tableswitch 175 0 18 #[94, 99, 104, 109, 114, 122, 127, 132, 140, 145, 150, 155, 160, 165, 170, 175, 175, 175, 89], [])]
set_option maxRecDepth 20000 in
def mB237_112 : mCodeT := [(112, .aload_n 0, []), (113, .invokevirtual 429, [0, 236, 0, 10]), (116, .ireturn, [])]
set_option maxRecDepth 20000 in
def mB237_117 : mCodeT := [(117, .aload_n 0, []), (118, .getfield 7, [10, 1]), (121, .ireturn, [])]
set_option maxRecDepth 20000 in
def mB237_122 : mCodeT := [(122, .aload_n 0, []), (123, .getfield 13, [10, 2]), (126, .ireturn, [])]
set_option maxRecDepth 20000 in
def mB237_127 : mCodeT := [(127, .aload_n 0, []), (128, .getfield 339, [10, 3]), (131, .ireturn, [])]
set_option maxRecDepth 20000 in
def mB237_132 : mCodeT := [(132, .aload_n 0, []), (133, .getfield 342, [10, 4]), (136, .ireturn, [])]
set_option maxRecDepth 20000 in
def mB237_137 : mCodeT := [(137, .aload_n 0, []), (138, .getfield 90, [10, 60]), (141, .bipush 36, []), (143, .iaload, []), (144, .ireturn, [])]
set_option maxRecDepth 20000 in
def mB237_145 : mCodeT := [(145, .aload_n 0, []), (146, .getfield 16, [10, 5]), (149, .ireturn, [])]
set_option maxRecDepth 20000 in
def mB237_150 : mCodeT := [(150, .aload_n 0, []), (151, .getfield 19, [10, 6]), (154, .ireturn, [])]
set_option maxRecDepth 20000 in
def mB237_155 : mCodeT := [(155, .aload_n 0, []), (156, .getfield 90, [10, 60]), (159, .bipush 37, []), (161, .iaload, []), (162, .ireturn, [])]
set_option maxRecDepth 20000 in
def mB237_163 : mCodeT := [(163, .aload_n 0, []), (164, .getfield 345, [10, 7]), (167, .ireturn, [])]
set_option maxRecDepth 20000 in
def mB237_168 : mCodeT := [(168, .aload_n 0, []), (169, .getfield 348, [10, 8]), (172, .ireturn, [])]
set_option maxRecDepth 20000 in
def mB237_173 : mCodeT := [(173, .aload_n 0, []), (174, .invokevirtual 432, [0, 219, 0, 10]), (177, .ireturn, [])]
set_option maxRecDepth 20000 in
def mB237_178 : mCodeT := [(178, .aload_n 0, []), (179, .getfield 355, [10, 63]), (182, .ireturn, [])]
set_option maxRecDepth 20000 in
def mB237_183 : mCodeT := [(183, .aload_n 0, []), (184, .getfield 358, [10, 74]), (187, .ireturn, [])]
set_option maxRecDepth 20000 in
def mB237_188 : mCodeT := [(188, .aload_n 0, []), (189, .getfield 361, [10, 75]), (192, .ireturn, [])]
set_option maxRecDepth 20000 in
def mB237_193 : mCodeT := [(193, .aload_n 0, []), (194, .getfield 144, [10, 18]), (197, .ireturn, [])]
set_option maxRecDepth 20000 in
def mB237_198 : mCodeT := [(198, .aload_n 0, []), (199, .getfield 53, [10, 21]), (202, .iload_n 1, []), (203, .bipush 15, []), (205, .isub, []), (206, .iaload, []), (207, .ireturn, [])]
set_option maxRecDepth 20000 in
def mC237 : mCodeT := mB237_0 ++ (mB237_22 ++ (mB237_112 ++ (mB237_117 ++ (mB237_122 ++ (mB237_127 ++ (mB237_132 ++ (mB237_137 ++ (mB237_145 ++ (mB237_150 ++ (mB237_155 ++ (mB237_163 ++ (mB237_168 ++ (mB237_173 ++ (mB237_178 ++ (mB237_183 ++ (mB237_188 ++ (mB237_193 ++ (mB237_198))))))))))))))))))
def mM237 : mRec := (yX12_count, cX12_count, 2, (some .int), [], [], mC237)
-- LaneEyesModel.isCell(I)Z
set_option maxRecDepth 20000 in
def mB238_0 : mCodeT := [(0, .aload_n 0, []), (1, .iload_n 1, []), (2, .ifCond .lt 15, []), (5, .iload_n 1, []), (6, .aload_n 0, []), (7, .invokevirtual 410, [0, 218, 0, 10]), (10, .if_icmp .ge 7, []), (13, .iconst 1, []), (14, .goto 4, [])]
set_option maxRecDepth 20000 in
def mB238_17 : mCodeT := [(17, .iconst 0, [])]
set_option maxRecDepth 20000 in
def mB238_18 : mCodeT := [(18, .iconst 1, []), (19, .invokevirtual 332, [0, 177, 2, 10]), (22, .ireturn, [])]
set_option maxRecDepth 20000 in
def mC238 : mCodeT := mB238_0 ++ (mB238_17 ++ (mB238_18))
def mM238 : mRec := (yX12_isCell, cX12_isCell, 2, (some .boolean), [], [], mC238)
-- LaneEyesModel.isLook(I)Z
set_option maxRecDepth 20000 in
def mB239_0 : mCodeT := [(0, .aload_n 0, []), (1, .iload_n 1, []), (2, .ifCond .lt 15, []), (5, .iload_n 1, []), (6, .aload_n 0, []), (7, .getfield 342, [10, 4]), (10, .if_icmp .ge 7, []), (13, .iconst 1, []), (14, .goto 4, [])]
set_option maxRecDepth 20000 in
def mB239_17 : mCodeT := [(17, .iconst 0, [])]
set_option maxRecDepth 20000 in
def mB239_18 : mCodeT := [(18, .iconst 1, []), (19, .invokevirtual 332, [0, 177, 2, 10]), (22, .ireturn, [])]
set_option maxRecDepth 20000 in
def mC239 : mCodeT := mB239_0 ++ (mB239_17 ++ (mB239_18))
def mM239 : mRec := (yX12_isLook, cX12_isLook, 2, (some .boolean), [], [], mC239)
-- LaneEyesModel.isSwimmer(I)Z
set_option maxRecDepth 20000 in
def mB240_0 : mCodeT := [(0, .aload_n 0, []), (1, .iload_n 1, []), (2, .ifCond .lt 15, []), (5, .iload_n 1, []), (6, .aload_n 0, []), (7, .getfield 339, [10, 3]), (10, .if_icmp .ge 7, []), (13, .iconst 1, []), (14, .goto 4, [])]
set_option maxRecDepth 20000 in
def mB240_17 : mCodeT := [(17, .iconst 0, [])]
set_option maxRecDepth 20000 in
def mB240_18 : mCodeT := [(18, .iconst 1, []), (19, .invokevirtual 332, [0, 177, 2, 10]), (22, .ireturn, [])]
set_option maxRecDepth 20000 in
def mC240 : mCodeT := mB240_0 ++ (mB240_17 ++ (mB240_18))
def mM240 : mRec := (yX12_isSwimmer, cX12_isSwimmer, 2, (some .boolean), [], [], mC240)
-- LaneEyesModel.isWhat(II)Z
set_option maxRecDepth 20000 in
def mB241_0 : mCodeT := [(0, .aload_n 0, []), (1, .iload_n 1, []), (2, .iconst 0, []), (3, .iload_n 2, []), (4, .invokestatic 426, [1, 178, 3]), (7, .iconst 1, []), (8, .invokevirtual 332, [0, 177, 2, 10]), (11, .ireturn, [])]
set_option maxRecDepth 20000 in
def mC241 : mCodeT := mB241_0
def mM241 : mRec := (yX12_isWhat, cX12_isWhat, 3, (some .boolean), [], [], mC241)
-- LaneEyesModel.unseen(I)I
set_option maxRecDepth 20000 in
def mB242_0 : mCodeT := [(0, .aload_n 0, []), (1, .invokevirtual 420, [0, 228, 0, 10]), (4, .aload_n 0, []), (5, .getfield 393, [10, 70]), (8, .ifCond .ne 5, []), (11, .iconst 0, []), (12, .ireturn, [])]
set_option maxRecDepth 20000 in
def mB242_13 : mCodeT := [(13, .aload_n 0, []), (14, .iload_n 1, []), (15, .invokevirtual 401, [0, 225, 1, 10]), (18, .istore_n 2, []), (19, .aload_n 0, []), (20, .iload_n 1, []), (21, .iload_n 2, []), (22, .invokevirtual 404, [0, 229, 2, 10]), (25, .iconst 0, []), (26, .istore_n 3, []), (27, .iconst 0, []), (28, .istore 4, [])]
set_option maxRecDepth 20000 in
def mB242_30 : mCodeT := [(30, .iload 4, []), (32, .aload_n 0, []), (33, .getfield 393, [10, 70]), (36, .if_icmp .ge 31, []), (39, .iload_n 3, []), (40, .aload_n 0, []), (41, .iload 4, []), (43, .iload_n 2, []), (44, .invokevirtual 407, [0, 230, 2, 10]), (47, .aload_n 0, []), (48, .getfield 16, [10, 5]), (51, .if_icmp .le 7, []), (54, .iconst 1, []), (55, .goto 4, [])]
set_option maxRecDepth 20000 in
def mB242_58 : mCodeT := [(58, .iconst 0, [])]
set_option maxRecDepth 20000 in
def mB242_59 : mCodeT := [(59, .iadd, []), (60, .istore_n 3, []), (61, .iinc 4 1, []), (64, .goto (-34), [])]
set_option maxRecDepth 20000 in
def mB242_67 : mCodeT := [(67, .iload_n 3, []), (68, .ireturn, [])]
set_option maxRecDepth 20000 in
def mC242 : mCodeT := mB242_0 ++ (mB242_13 ++ (mB242_30 ++ (mB242_58 ++ (mB242_59 ++ (mB242_67)))))
def mM242 : mRec := (yX12_unseen, cX12_unseen, 5, (some .int), [], [], mC242)
-- LaneEyesModel.cell(II)I
set_option maxRecDepth 20000 in
def mB243_0 : mCodeT := [(0, .aload_n 0, []), (1, .iconst 0, []), (2, .putfield 141, [10, 0]), (5, .aload_n 0, []), (6, .iload_n 1, []), (7, .invokevirtual 435, [0, 238, 1, 10]), (10, .ifCond .eq 13, []), (13, .aload_n 0, []), (14, .iload_n 2, []), (15, .bipush 6, []), (17, .invokevirtual 438, [0, 241, 2, 10]), (20, .ifCond .ne 5, [])]
set_option maxRecDepth 20000 in
def mB243_23 : mCodeT := [(23, .iconst 0, []), (24, .ireturn, [])]
set_option maxRecDepth 20000 in
def mB243_25 : mCodeT := [(25, .iload_n 2, []), (26, .tableswitch 83 0 5 #[38, 45, 52, 58, 64, 70], [])]
set_option maxRecDepth 20000 in
def mB243_64 : mCodeT := [(64, .aload_n 0, []), (65, .getfield 28, [10, 11]), (68, .iload_n 1, []), (69, .iaload, []), (70, .ireturn, [])]
set_option maxRecDepth 20000 in
def mB243_71 : mCodeT := [(71, .aload_n 0, []), (72, .getfield 32, [10, 12]), (75, .iload_n 1, []), (76, .iaload, []), (77, .ireturn, [])]
set_option maxRecDepth 20000 in
def mB243_78 : mCodeT := [(78, .aload_n 0, []), (79, .iload_n 1, []), (80, .invokevirtual 381, [0, 222, 1, 10]), (83, .ireturn, [])]
set_option maxRecDepth 20000 in
def mB243_84 : mCodeT := [(84, .aload_n 0, []), (85, .iload_n 1, []), (86, .invokevirtual 375, [0, 223, 1, 10]), (89, .ireturn, [])]
set_option maxRecDepth 20000 in
def mB243_90 : mCodeT := [(90, .aload_n 0, []), (91, .iload_n 1, []), (92, .invokevirtual 401, [0, 225, 1, 10]), (95, .ireturn, [])]
set_option maxRecDepth 20000 in
def mB243_96 : mCodeT := [(96, .aload_n 0, []), (97, .invokevirtual 420, [0, 228, 0, 10]), (100, .aload_n 0, []), (101, .iload_n 1, []), (102, .invokevirtual 417, [0, 231, 1, 10]), (105, .invokestatic 441, [1, 235, 1]), (108, .ireturn, [])]
set_option maxRecDepth 20000 in
def mB243_109 : mCodeT := [(109, .aload_n 0, []), (110, .iload_n 1, []), (111, .invokevirtual 444, [0, 242, 1, 10]), (114, .ireturn, [])]
set_option maxRecDepth 20000 in
def mC243 : mCodeT := mB243_0 ++ (mB243_23 ++ (mB243_25 ++ (mB243_64 ++ (mB243_71 ++ (mB243_78 ++ (mB243_84 ++ (mB243_90 ++ (mB243_96 ++ (mB243_109)))))))))
def mM243 : mRec := (yX12_cell, cX12_cell, 3, (some .int), [], [], mC243)
-- LaneEyesModel.look(II)I
set_option maxRecDepth 20000 in
def mB244_0 : mCodeT := [(0, .aload_n 0, []), (1, .iconst 0, []), (2, .putfield 141, [10, 0]), (5, .aload_n 0, []), (6, .iload_n 1, []), (7, .invokevirtual 447, [0, 239, 1, 10]), (10, .ifCond .eq 33, []), (13, .aload_n 0, []), (14, .iload_n 2, []), (15, .iconst 1, []), (16, .invokevirtual 438, [0, 241, 2, 10]), (19, .ifCond .eq 24, []), (22, .aload_n 0, []), (23, .getfield 90, [10, 60]), (26, .iload_n 2, []), (27, .ifCond .ne 8, []), (30, .bipush 12, []), (32, .goto 5, [])]
set_option maxRecDepth 20000 in
def mB244_35 : mCodeT := [(35, .bipush 24, [])]
set_option maxRecDepth 20000 in
def mB244_37 : mCodeT := [(37, .iload_n 1, []), (38, .iadd, []), (39, .iaload, []), (40, .goto 4, [])]
set_option maxRecDepth 20000 in
def mB244_43 : mCodeT := [(43, .iconst 0, [])]
set_option maxRecDepth 20000 in
def mB244_44 : mCodeT := [(44, .ireturn, [])]
set_option maxRecDepth 20000 in
def mC244 : mCodeT := mB244_0 ++ (mB244_35 ++ (mB244_37 ++ (mB244_43 ++ (mB244_44))))
def mM244 : mRec := (yX12_look, cX12_look, 3, (some .int), [], [], mC244)
-- LaneEyesModel.swimmer(II)I
set_option maxRecDepth 20000 in
def mB245_0 : mCodeT := [(0, .aload_n 0, []), (1, .iconst 0, []), (2, .putfield 141, [10, 0]), (5, .aload_n 0, []), (6, .iload_n 1, []), (7, .invokevirtual 450, [0, 240, 1, 10]), (10, .ifCond .eq 12, []), (13, .aload_n 0, []), (14, .iload_n 2, []), (15, .iconst 2, []), (16, .invokevirtual 438, [0, 241, 2, 10]), (19, .ifCond .ne 5, [])]
set_option maxRecDepth 20000 in
def mB245_22 : mCodeT := [(22, .iconst 0, []), (23, .ireturn, [])]
set_option maxRecDepth 20000 in
def mB245_24 : mCodeT := [(24, .iload_n 2, []), (25, .ifCond .ne 14, []), (28, .aload_n 0, []), (29, .getfield 90, [10, 60]), (32, .iconst 0, []), (33, .iload_n 1, []), (34, .iadd, []), (35, .iaload, []), (36, .goto 22, [])]
set_option maxRecDepth 20000 in
def mB245_39 : mCodeT := [(39, .iload_n 2, []), (40, .iconst 1, []), (41, .if_icmp .ne 12, []), (44, .aload_n 0, []), (45, .getfield 35, [10, 13]), (48, .iload_n 1, []), (49, .iaload, []), (50, .goto 8, [])]
set_option maxRecDepth 20000 in
def mB245_53 : mCodeT := [(53, .aload_n 0, []), (54, .iload_n 1, []), (55, .invokevirtual 453, [0, 226, 1, 10])]
set_option maxRecDepth 20000 in
def mB245_58 : mCodeT := [(58, .ireturn, [])]
set_option maxRecDepth 20000 in
def mC245 : mCodeT := mB245_0 ++ (mB245_22 ++ (mB245_24 ++ (mB245_39 ++ (mB245_53 ++ (mB245_58)))))
def mM245 : mRec := (yX12_swimmer, cX12_swimmer, 3, (some .int), [], [], mC245)
-- LaneEyesModel.delay(II)I
set_option maxRecDepth 20000 in
def mB246_0 : mCodeT := [(0, .aload_n 0, []), (1, .iconst 0, []), (2, .putfield 141, [10, 0]), (5, .aload_n 0, []), (6, .iload_n 1, []), (7, .invokevirtual 435, [0, 238, 1, 10]), (10, .ifCond .eq 28, []), (13, .aload_n 0, []), (14, .iload_n 2, []), (15, .ifCond .lt 15, []), (18, .iload_n 2, []), (19, .aload_n 0, []), (20, .invokevirtual 432, [0, 219, 0, 10]), (23, .if_icmp .ge 7, []), (26, .iconst 1, []), (27, .goto 4, [])]
set_option maxRecDepth 20000 in
def mB246_30 : mCodeT := [(30, .iconst 0, [])]
set_option maxRecDepth 20000 in
def mB246_31 : mCodeT := [(31, .iconst 1, []), (32, .invokevirtual 332, [0, 177, 2, 10]), (35, .ifCond .ne 5, [])]
set_option maxRecDepth 20000 in
def mB246_38 : mCodeT := [(38, .iconst 0, []), (39, .ireturn, [])]
set_option maxRecDepth 20000 in
def mB246_40 : mCodeT := [(40, .aload_n 0, []), (41, .invokevirtual 420, [0, 228, 0, 10]), (44, .aload_n 0, []), (45, .iload_n 1, []), (46, .invokevirtual 401, [0, 225, 1, 10]), (49, .istore_n 3, []), (50, .aload_n 0, []), (51, .iload_n 1, []), (52, .iload_n 3, []), (53, .invokevirtual 404, [0, 229, 2, 10]), (56, .aload_n 0, []), (57, .iload_n 2, []), (58, .iload_n 3, []), (59, .invokevirtual 407, [0, 230, 2, 10]), (62, .invokestatic 441, [1, 235, 1]), (65, .ireturn, [])]
set_option maxRecDepth 20000 in
def mC246 : mCodeT := mB246_0 ++ (mB246_30 ++ (mB246_31 ++ (mB246_38 ++ (mB246_40))))
def mM246 : mRec := (yX12_delay, cX12_delay, 4, (some .int), [], [], mC246)
-- LaneEyesModel.worst(I)I
set_option maxRecDepth 20000 in
def mB247_0 : mCodeT := [(0, .aload_n 0, []), (1, .iconst 0, []), (2, .putfield 141, [10, 0]), (5, .aload_n 0, []), (6, .iload_n 1, []), (7, .iconst 1, []), (8, .invokevirtual 438, [0, 241, 2, 10]), (11, .ifCond .ne 5, []), (14, .iconst 0, []), (15, .ireturn, [])]
set_option maxRecDepth 20000 in
def mB247_16 : mCodeT := [(16, .aload_n 0, []), (17, .invokevirtual 456, [0, 234, 0, 10]), (20, .istore_n 2, []), (21, .iload_n 1, []), (22, .ifCond .ne 8, []), (25, .iload_n 2, []), (26, .invokestatic 441, [1, 235, 1]), (29, .ireturn, [])]
set_option maxRecDepth 20000 in
def mB247_30 : mCodeT := [(30, .iconst 0, []), (31, .istore_n 3, [])]
set_option maxRecDepth 20000 in
def mB247_32 : mCodeT := [(32, .iload_n 3, []), (33, .aload_n 0, []), (34, .invokevirtual 410, [0, 218, 0, 10]), (37, .if_icmp .ge 33, []), (40, .aload_n 0, []), (41, .iload_n 3, []), (42, .iconst 0, []), (43, .aload_n 0, []), (44, .getfield 7, [10, 1]), (47, .invokevirtual 413, [0, 232, 3, 10]), (50, .ifCond .eq 14, []), (53, .aload_n 0, []), (54, .iload_n 3, []), (55, .invokevirtual 417, [0, 231, 1, 10]), (58, .iload_n 2, []), (59, .if_icmp .ne 5, []), (62, .iload_n 3, []), (63, .ireturn, [])]
set_option maxRecDepth 20000 in
def mB247_64 : mCodeT := [(64, .iinc 3 1, []), (67, .goto (-35), [])]
set_option maxRecDepth 20000 in
def mB247_70 : mCodeT := [(70, .iconst (-1), []), (71, .ireturn, [])]
set_option maxRecDepth 20000 in
def mC247 : mCodeT := mB247_0 ++ (mB247_16 ++ (mB247_30 ++ (mB247_32 ++ (mB247_64 ++ (mB247_70)))))
def mM247 : mRec := (yX12_worst, cX12_worst, 4, (some .int), [], [], mC247)
-- LaneEyesModel.swim(II)I
set_option maxRecDepth 20000 in
def mB248_0 : mCodeT := [(0, .aload_n 0, []), (1, .iconst 0, []), (2, .putfield 141, [10, 0]), (5, .aload_n 0, []), (6, .iload_n 1, []), (7, .invokevirtual 450, [0, 240, 1, 10]), (10, .ifCond .ne 5, []), (13, .iconst 0, []), (14, .ireturn, [])]
set_option maxRecDepth 20000 in
def mB248_15 : mCodeT := [(15, .iload_n 2, []), (16, .ifCond .lt 11, []), (19, .iload_n 2, []), (20, .aload_n 0, []), (21, .invokevirtual 410, [0, 218, 0, 10]), (24, .if_icmp .lt 9, [])]
set_option maxRecDepth 20000 in
def mB248_27 : mCodeT := [(27, .aload_n 0, []), (28, .iconst 1, []), (29, .invokevirtual 459, [0, 216, 1, 10]), (32, .ireturn, [])]
set_option maxRecDepth 20000 in
def mB248_33 : mCodeT := [(33, .aload_n 0, []), (34, .iconst 0, []), (35, .iload_n 1, []), (36, .iadd, []), (37, .iload_n 2, []), (38, .invokevirtual 462, [0, 249, 2, 10]), (41, .ireturn, [])]
set_option maxRecDepth 20000 in
def mC248 : mCodeT := mB248_0 ++ (mB248_15 ++ (mB248_27 ++ (mB248_33)))
def mM248 : mRec := (yX12_swim, cX12_swim, 3, (some .int), [], [], mC248)
-- LaneEyesModel.becomes(II)I
set_option maxRecDepth 20000 in
def mB249_0 : mCodeT := [(0, .aload_n 0, []), (1, .invokevirtual 465, [0, 215, 0, 10]), (4, .aload_n 0, []), (5, .getfield 90, [10, 60]), (8, .iload_n 1, []), (9, .iaload, []), (10, .istore_n 3, []), (11, .aload_n 0, []), (12, .getfield 90, [10, 60]), (15, .iload_n 1, []), (16, .iload_n 2, []), (17, .iastore, []), (18, .iload_n 3, []), (19, .ireturn, [])]
set_option maxRecDepth 20000 in
def mC249 : mCodeT := mB249_0
def mM249 : mRec := (yX12_becomes, cX12_becomes, 4, (some .int), [], [], mC249)
-- LaneEyesModel.chair(I)I
set_option maxRecDepth 20000 in
def mB250_0 : mCodeT := [(0, .aload_n 0, []), (1, .iconst 0, []), (2, .putfield 141, [10, 0]), (5, .iload_n 1, []), (6, .ifCond .lt 11, []), (9, .iload_n 1, []), (10, .aload_n 0, []), (11, .invokevirtual 410, [0, 218, 0, 10]), (14, .if_icmp .lt 11, [])]
set_option maxRecDepth 20000 in
def mB250_17 : mCodeT := [(17, .aload_n 0, []), (18, .iconst 1, []), (19, .invokevirtual 459, [0, 216, 1, 10]), (22, .goto 10, [])]
set_option maxRecDepth 20000 in
def mB250_25 : mCodeT := [(25, .aload_n 0, []), (26, .bipush 36, []), (28, .iload_n 1, []), (29, .invokevirtual 462, [0, 249, 2, 10])]
set_option maxRecDepth 20000 in
def mB250_32 : mCodeT := [(32, .ireturn, [])]
set_option maxRecDepth 20000 in
def mC250 : mCodeT := mB250_0 ++ (mB250_17 ++ (mB250_25 ++ (mB250_32)))
def mM250 : mRec := (yX12_chair, cX12_chair, 2, (some .int), [], [], mC250)
-- LaneEyesModel.lasts(II)I
set_option maxRecDepth 20000 in
def mB251_0 : mCodeT := [(0, .aload_n 0, []), (1, .iconst 0, []), (2, .putfield 141, [10, 0]), (5, .aload_n 0, []), (6, .iload_n 1, []), (7, .invokevirtual 447, [0, 239, 1, 10]), (10, .ifCond .ne 5, []), (13, .iconst 0, []), (14, .ireturn, [])]
set_option maxRecDepth 20000 in
def mB251_15 : mCodeT := [(15, .iload_n 2, []), (16, .iconst 1, []), (17, .bipush 9, []), (19, .invokestatic 426, [1, 178, 3]), (22, .ifCond .eq 15, []), (25, .aload_n 0, []), (26, .bipush 24, []), (28, .iload_n 1, []), (29, .iadd, []), (30, .iload_n 2, []), (31, .invokevirtual 462, [0, 249, 2, 10]), (34, .goto 8, [])]
set_option maxRecDepth 20000 in
def mB251_37 : mCodeT := [(37, .aload_n 0, []), (38, .iconst 1, []), (39, .invokevirtual 459, [0, 216, 1, 10])]
set_option maxRecDepth 20000 in
def mB251_42 : mCodeT := [(42, .ireturn, [])]
set_option maxRecDepth 20000 in
def mC251 : mCodeT := mB251_0 ++ (mB251_15 ++ (mB251_37 ++ (mB251_42)))
def mM251 : mRec := (yX12_lasts, cX12_lasts, 3, (some .int), [], [], mC251)
-- LaneEyesModel.changes(II)V
set_option maxRecDepth 20000 in
def mB252_0 : mCodeT := [(0, .bipush 12, []), (2, .istore_n 3, [])]
set_option maxRecDepth 20000 in
def mB252_3 : mCodeT := [(3, .iload_n 3, []), (4, .bipush 24, []), (6, .if_icmp .gt 45, []), (9, .aload_n 0, []), (10, .getfield 90, [10, 60]), (13, .iload_n 3, []), (14, .iload_n 1, []), (15, .iadd, []), (16, .iaload, []), (17, .istore 4, []), (19, .aload_n 0, []), (20, .getfield 90, [10, 60]), (23, .iload_n 3, []), (24, .iload_n 1, []), (25, .iadd, []), (26, .aload_n 0, []), (27, .getfield 90, [10, 60]), (30, .iload_n 3, []), (31, .iload_n 2, []), (32, .iadd, []), (33, .iaload, []), (34, .iastore, []), (35, .aload_n 0, []), (36, .getfield 90, [10, 60]), (39, .iload_n 3, []), (40, .iload_n 2, []), (41, .iadd, []), (42, .iload 4, []), (44, .iastore, []), (45, .iinc 3 12, []), (48, .goto (-45), [])]
set_option maxRecDepth 20000 in
def mB252_51 : mCodeT := [(51, .return_, [])]
set_option maxRecDepth 20000 in
def mC252 : mCodeT := mB252_0 ++ (mB252_3 ++ (mB252_51))
def mM252 : mRec := (yX12_changes, cX12_changes, 5, none, [], [], mC252)
-- LaneEyesModel.change(II)Z
set_option maxRecDepth 20000 in
def mB253_0 : mCodeT := [(0, .aload_n 0, []), (1, .iconst 0, []), (2, .putfield 141, [10, 0]), (5, .iload_n 1, []), (6, .ifCond .lt 28, []), (9, .iload_n 2, []), (10, .ifCond .lt 24, []), (13, .iload_n 1, []), (14, .aload_n 0, []), (15, .getfield 342, [10, 4]), (18, .if_icmp .ge 16, []), (21, .iload_n 2, []), (22, .aload_n 0, []), (23, .getfield 342, [10, 4]), (26, .if_icmp .ge 8, []), (29, .iload_n 1, []), (30, .iload_n 2, []), (31, .if_icmp .ne 17, [])]
set_option maxRecDepth 20000 in
def mB253_34 : mCodeT := [(34, .aload_n 0, []), (35, .iconst 1, []), (36, .invokevirtual 459, [0, 216, 1, 10]), (39, .ifCond .le 7, []), (42, .iconst 1, []), (43, .goto 4, [])]
set_option maxRecDepth 20000 in
def mB253_46 : mCodeT := [(46, .iconst 0, [])]
set_option maxRecDepth 20000 in
def mB253_47 : mCodeT := [(47, .ireturn, [])]
set_option maxRecDepth 20000 in
def mB253_48 : mCodeT := [(48, .aload_n 0, []), (49, .invokevirtual 465, [0, 215, 0, 10]), (52, .aload_n 0, []), (53, .iload_n 1, []), (54, .iload_n 2, []), (55, .invokevirtual 468, [0, 252, 2, 10]), (58, .iconst 1, []), (59, .ireturn, [])]
set_option maxRecDepth 20000 in
def mC253 : mCodeT := mB253_0 ++ (mB253_34 ++ (mB253_46 ++ (mB253_47 ++ (mB253_48))))
def mM253 : mRec := (yX12_change, cX12_change, 3, (some .boolean), [], [], mC253)
-- LaneEyesModel.minutes(I)I
set_option maxRecDepth 20000 in
def mB254_0 : mCodeT := [(0, .aload_n 0, []), (1, .iconst 0, []), (2, .putfield 141, [10, 0]), (5, .iload_n 1, []), (6, .iconst 0, []), (7, .sipush 999, []), (10, .invokestatic 426, [1, 178, 3]), (13, .ifCond .eq 13, []), (16, .aload_n 0, []), (17, .bipush 37, []), (19, .iload_n 1, []), (20, .invokevirtual 462, [0, 249, 2, 10]), (23, .goto 8, [])]
set_option maxRecDepth 20000 in
def mB254_26 : mCodeT := [(26, .aload_n 0, []), (27, .iconst 1, []), (28, .invokevirtual 459, [0, 216, 1, 10])]
set_option maxRecDepth 20000 in
def mB254_31 : mCodeT := [(31, .ireturn, [])]
set_option maxRecDepth 20000 in
def mC254 : mCodeT := mB254_0 ++ (mB254_26 ++ (mB254_31))
def mM254 : mRec := (yX12_minutes, cX12_minutes, 2, (some .int), [], [], mC254)
-- LaneEyesModel.triesOrder()V
set_option maxRecDepth 20000 in
def mB255_0 : mCodeT := [(0, .iconst 0, []), (1, .istore_n 1, [])]
set_option maxRecDepth 20000 in
def mB255_2 : mCodeT := [(2, .iload_n 1, []), (3, .aload_n 0, []), (4, .getfield 342, [10, 4]), (7, .if_icmp .ge 55, []), (10, .aload_n 0, []), (11, .getfield 90, [10, 60]), (14, .bipush 12, []), (16, .iload_n 1, []), (17, .iadd, []), (18, .aload_n 0, []), (19, .getfield 93, [10, 61]), (22, .bipush 12, []), (24, .aload_n 0, []), (25, .getfield 120, [10, 73]), (28, .iload_n 1, []), (29, .iaload, []), (30, .iadd, []), (31, .iaload, []), (32, .iastore, []), (33, .aload_n 0, []), (34, .getfield 90, [10, 60]), (37, .bipush 24, []), (39, .iload_n 1, []), (40, .iadd, []), (41, .aload_n 0, []), (42, .getfield 93, [10, 61]), (45, .bipush 24, []), (47, .aload_n 0, []), (48, .getfield 120, [10, 73]), (51, .iload_n 1, []), (52, .iaload, []), (53, .iadd, []), (54, .iaload, []), (55, .iastore, []), (56, .iinc 1 1, []), (59, .goto (-57), [])]
set_option maxRecDepth 20000 in
def mB255_62 : mCodeT := [(62, .return_, [])]
set_option maxRecDepth 20000 in
def mC255 : mCodeT := mB255_0 ++ (mB255_2 ++ (mB255_62))
def mM255 : mRec := (yX12_triesOrder, cX12_triesOrder, 2, none, [], [], mC255)
-- LaneEyesModel.nextOrder()Z
set_option maxRecDepth 20000 in
def mB256_0 : mCodeT := [(0, .aload_n 0, []), (1, .getfield 342, [10, 4]), (4, .iconst 2, []), (5, .isub, []), (6, .istore_n 1, [])]
set_option maxRecDepth 20000 in
def mB256_7 : mCodeT := [(7, .iload_n 1, []), (8, .iconst 1, []), (9, .if_icmp .lt 26, []), (12, .aload_n 0, []), (13, .getfield 120, [10, 73]), (16, .iload_n 1, []), (17, .iaload, []), (18, .aload_n 0, []), (19, .getfield 120, [10, 73]), (22, .iload_n 1, []), (23, .iconst 1, []), (24, .iadd, []), (25, .iaload, []), (26, .if_icmp .le 9, []), (29, .iinc 1 (-1), []), (32, .goto (-25), [])]
set_option maxRecDepth 20000 in
def mB256_35 : mCodeT := [(35, .iload_n 1, []), (36, .iconst 1, []), (37, .if_icmp .ge 5, []), (40, .iconst 0, []), (41, .ireturn, [])]
set_option maxRecDepth 20000 in
def mB256_42 : mCodeT := [(42, .aload_n 0, []), (43, .getfield 342, [10, 4]), (46, .iconst 1, []), (47, .isub, []), (48, .istore_n 2, [])]
set_option maxRecDepth 20000 in
def mB256_49 : mCodeT := [(49, .aload_n 0, []), (50, .getfield 120, [10, 73]), (53, .iload_n 2, []), (54, .iaload, []), (55, .aload_n 0, []), (56, .getfield 120, [10, 73]), (59, .iload_n 1, []), (60, .iaload, []), (61, .if_icmp .ge 9, []), (64, .iinc 2 (-1), []), (67, .goto (-18), [])]
set_option maxRecDepth 20000 in
def mB256_70 : mCodeT := [(70, .aload_n 0, []), (71, .iload_n 1, []), (72, .iload_n 2, []), (73, .invokevirtual 471, [0, 257, 2, 10]), (76, .iload_n 1, []), (77, .iconst 1, []), (78, .iadd, []), (79, .istore_n 3, []), (80, .aload_n 0, []), (81, .getfield 342, [10, 4]), (84, .iconst 1, []), (85, .isub, []), (86, .istore 4, [])]
set_option maxRecDepth 20000 in
def mB256_88 : mCodeT := [(88, .iload_n 3, []), (89, .iload 4, []), (91, .if_icmp .ge 19, []), (94, .aload_n 0, []), (95, .iload_n 3, []), (96, .iload 4, []), (98, .invokevirtual 471, [0, 257, 2, 10]), (101, .iinc 3 1, []), (104, .iinc 4 (-1), []), (107, .goto (-19), [])]
set_option maxRecDepth 20000 in
def mB256_110 : mCodeT := [(110, .iconst 1, []), (111, .ireturn, [])]
set_option maxRecDepth 20000 in
def mC256 : mCodeT := mB256_0 ++ (mB256_7 ++ (mB256_35 ++ (mB256_42 ++ (mB256_49 ++ (mB256_70 ++ (mB256_88 ++ (mB256_110)))))))
def mM256 : mRec := (yX12_nextOrder, cX12_nextOrder, 5, (some .boolean), [], [], mC256)
-- LaneEyesModel.turns0(II)V
set_option maxRecDepth 20000 in
def mB257_0 : mCodeT := [(0, .aload_n 0, []), (1, .getfield 120, [10, 73]), (4, .iload_n 1, []), (5, .iaload, []), (6, .istore_n 3, []), (7, .aload_n 0, []), (8, .getfield 120, [10, 73]), (11, .iload_n 1, []), (12, .aload_n 0, []), (13, .getfield 120, [10, 73]), (16, .iload_n 2, []), (17, .iaload, []), (18, .iastore, []), (19, .aload_n 0, []), (20, .getfield 120, [10, 73]), (23, .iload_n 2, []), (24, .iload_n 3, []), (25, .iastore, []), (26, .return_, [])]
set_option maxRecDepth 20000 in
def mC257 : mCodeT := mB257_0
def mM257 : mRec := (yX12_turns0, cX12_turns0, 4, none, [], [], mC257)
-- LaneEyesModel.order()I
set_option maxRecDepth 20000 in
def mB258_0 : mCodeT := [(0, .aload_n 0, []), (1, .iconst 0, []), (2, .putfield 141, [10, 0]), (5, .aload_n 0, []), (6, .getfield 342, [10, 4]), (9, .bipush 7, []), (11, .if_icmp .le 6, []), (14, .bipush (-2), []), (16, .ireturn, [])]
set_option maxRecDepth 20000 in
def mB258_17 : mCodeT := [(17, .aload_n 0, []), (18, .aload_n 0, []), (19, .getfield 90, [10, 60]), (22, .aload_n 0, []), (23, .getfield 93, [10, 61]), (26, .invokevirtual 351, [0, 180, 2, 10]), (29, .iconst 0, []), (30, .istore_n 1, [])]
set_option maxRecDepth 20000 in
def mB258_31 : mCodeT := [(31, .iload_n 1, []), (32, .aload_n 0, []), (33, .getfield 342, [10, 4]), (36, .if_icmp .ge 16, []), (39, .aload_n 0, []), (40, .getfield 120, [10, 73]), (43, .iload_n 1, []), (44, .iload_n 1, []), (45, .iastore, []), (46, .iinc 1 1, []), (49, .goto (-18), [])]
set_option maxRecDepth 20000 in
def mB258_52 : mCodeT := [(52, .iconst (-1), []), (53, .istore_n 1, []), (54, .iconst 1, []), (55, .istore_n 2, [])]
set_option maxRecDepth 20000 in
def mB258_56 : mCodeT := [(56, .iload_n 2, []), (57, .ifCond .eq 44, []), (60, .aload_n 0, []), (61, .invokevirtual 474, [0, 255, 0, 10]), (64, .aload_n 0, []), (65, .invokevirtual 456, [0, 234, 0, 10]), (68, .istore_n 3, []), (69, .iload_n 1, []), (70, .iconst (-1), []), (71, .if_icmp .eq 8, []), (74, .iload_n 3, []), (75, .iload_n 1, []), (76, .if_icmp .ge 17, [])]
set_option maxRecDepth 20000 in
def mB258_79 : mCodeT := [(79, .iload_n 3, []), (80, .istore_n 1, []), (81, .aload_n 0, []), (82, .aload_n 0, []), (83, .getfield 120, [10, 73]), (86, .aload_n 0, []), (87, .getfield 117, [10, 72]), (90, .invokevirtual 351, [0, 180, 2, 10])]
set_option maxRecDepth 20000 in
def mB258_93 : mCodeT := [(93, .aload_n 0, []), (94, .invokevirtual 477, [0, 256, 0, 10]), (97, .istore_n 2, []), (98, .goto (-42), [])]
set_option maxRecDepth 20000 in
def mB258_101 : mCodeT := [(101, .aload_n 0, []), (102, .aload_n 0, []), (103, .getfield 93, [10, 61]), (106, .aload_n 0, []), (107, .getfield 90, [10, 60]), (110, .invokevirtual 351, [0, 180, 2, 10]), (113, .aload_n 0, []), (114, .aload_n 0, []), (115, .getfield 342, [10, 4]), (118, .putfield 114, [10, 71]), (121, .iload_n 1, []), (122, .invokestatic 441, [1, 235, 1]), (125, .ireturn, [])]
set_option maxRecDepth 20000 in
def mC258 : mCodeT := mB258_0 ++ (mB258_17 ++ (mB258_31 ++ (mB258_52 ++ (mB258_56 ++ (mB258_79 ++ (mB258_93 ++ (mB258_101)))))))
def mM258 : mRec := (yX12_order, cX12_order, 4, (some .int), [], [], mC258)
-- LaneEyesModel.lengths()I
set_option maxRecDepth 20000 in
def mB259_0 : mCodeT := [(0, .aload_n 0, []), (1, .iconst 0, []), (2, .putfield 141, [10, 0]), (5, .aload_n 0, []), (6, .getfield 342, [10, 4]), (9, .iconst 5, []), (10, .if_icmp .le 6, []), (13, .bipush (-2), []), (15, .ireturn, [])]
set_option maxRecDepth 20000 in
def mB259_16 : mCodeT := [(16, .aload_n 0, []), (17, .aload_n 0, []), (18, .getfield 90, [10, 60]), (21, .aload_n 0, []), (22, .getfield 93, [10, 61]), (25, .invokevirtual 351, [0, 180, 2, 10]), (28, .iconst 1, []), (29, .istore_n 1, []), (30, .iconst 0, []), (31, .istore_n 2, [])]
set_option maxRecDepth 20000 in
def mB259_32 : mCodeT := [(32, .iload_n 2, []), (33, .aload_n 0, []), (34, .getfield 342, [10, 4]), (37, .if_icmp .ge 13, []), (40, .iload_n 1, []), (41, .iconst 4, []), (42, .imul, []), (43, .istore_n 1, []), (44, .iinc 2 1, []), (47, .goto (-15), [])]
set_option maxRecDepth 20000 in
def mB259_50 : mCodeT := [(50, .iconst (-1), []), (51, .istore_n 2, []), (52, .iconst 0, []), (53, .istore_n 3, [])]
set_option maxRecDepth 20000 in
def mB259_54 : mCodeT := [(54, .iload_n 3, []), (55, .iload_n 1, []), (56, .if_icmp .ge 111, []), (59, .iload_n 3, []), (60, .istore 4, []), (62, .aload_n 0, []), (63, .getfield 342, [10, 4]), (66, .iconst 1, []), (67, .isub, []), (68, .istore 5, [])]
set_option maxRecDepth 20000 in
def mB259_70 : mCodeT := [(70, .iload 5, []), (72, .ifCond .lt 31, []), (75, .aload_n 0, []), (76, .getfield 90, [10, 60]), (79, .bipush 24, []), (81, .iload 5, []), (83, .iadd, []), (84, .iconst 1, []), (85, .iload 4, []), (87, .iconst 4, []), (88, .irem, []), (89, .iadd, []), (90, .iastore, []), (91, .iload 4, []), (93, .iconst 4, []), (94, .idiv, []), (95, .istore 4, []), (97, .iinc 5 (-1), []), (100, .goto (-30), [])]
set_option maxRecDepth 20000 in
def mB259_103 : mCodeT := [(103, .aload_n 0, []), (104, .invokevirtual 456, [0, 234, 0, 10]), (107, .istore 5, []), (109, .iload_n 2, []), (110, .iconst (-1), []), (111, .if_icmp .eq 12, []), (114, .iload 5, []), (116, .iload_n 2, []), (117, .if_icmp .lt 6, []), (120, .goto 41, [])]
set_option maxRecDepth 20000 in
def mB259_123 : mCodeT := [(123, .iload 5, []), (125, .istore_n 2, []), (126, .iconst 0, []), (127, .istore 6, [])]
set_option maxRecDepth 20000 in
def mB259_129 : mCodeT := [(129, .iload 6, []), (131, .aload_n 0, []), (132, .getfield 342, [10, 4]), (135, .if_icmp .ge 26, []), (138, .aload_n 0, []), (139, .getfield 117, [10, 72]), (142, .iload 6, []), (144, .aload_n 0, []), (145, .getfield 90, [10, 60]), (148, .bipush 24, []), (150, .iload 6, []), (152, .iadd, []), (153, .iaload, []), (154, .iastore, []), (155, .iinc 6 1, []), (158, .goto (-29), [])]
set_option maxRecDepth 20000 in
def mB259_161 : mCodeT := [(161, .iinc 3 1, []), (164, .goto (-110), [])]
set_option maxRecDepth 20000 in
def mB259_167 : mCodeT := [(167, .aload_n 0, []), (168, .aload_n 0, []), (169, .getfield 93, [10, 61]), (172, .aload_n 0, []), (173, .getfield 90, [10, 60]), (176, .invokevirtual 351, [0, 180, 2, 10]), (179, .aload_n 0, []), (180, .aload_n 0, []), (181, .getfield 342, [10, 4]), (184, .putfield 114, [10, 71]), (187, .iload_n 2, []), (188, .invokestatic 441, [1, 235, 1]), (191, .ireturn, [])]
set_option maxRecDepth 20000 in
def mC259 : mCodeT := mB259_0 ++ (mB259_16 ++ (mB259_32 ++ (mB259_50 ++ (mB259_54 ++ (mB259_70 ++ (mB259_103 ++ (mB259_123 ++ (mB259_129 ++ (mB259_161 ++ (mB259_167))))))))))
def mM259 : mRec := (yX12_lengths, cX12_lengths, 7, (some .int), [], [], mC259)
-- LaneEyesModel.row(I)I
set_option maxRecDepth 20000 in
def mB260_0 : mCodeT := [(0, .aload_n 0, []), (1, .iconst 0, []), (2, .putfield 141, [10, 0]), (5, .aload_n 0, []), (6, .aload_n 0, []), (7, .getfield 114, [10, 71]), (10, .iconst (-1), []), (11, .if_icmp .eq 19, []), (14, .iload_n 1, []), (15, .ifCond .lt 15, []), (18, .iload_n 1, []), (19, .aload_n 0, []), (20, .getfield 114, [10, 71]), (23, .if_icmp .ge 7, []), (26, .iconst 1, []), (27, .goto 4, [])]
set_option maxRecDepth 20000 in
def mB260_30 : mCodeT := [(30, .iconst 0, [])]
set_option maxRecDepth 20000 in
def mB260_31 : mCodeT := [(31, .iconst 1, []), (32, .invokevirtual 332, [0, 177, 2, 10]), (35, .ifCond .eq 12, []), (38, .aload_n 0, []), (39, .getfield 117, [10, 72]), (42, .iload_n 1, []), (43, .iaload, []), (44, .goto 4, [])]
set_option maxRecDepth 20000 in
def mB260_47 : mCodeT := [(47, .iconst 0, [])]
set_option maxRecDepth 20000 in
def mB260_48 : mCodeT := [(48, .ireturn, [])]
set_option maxRecDepth 20000 in
def mC260 : mCodeT := mB260_0 ++ (mB260_30 ++ (mB260_31 ++ (mB260_47 ++ (mB260_48))))
def mM260 : mRec := (yX12_row, cX12_row, 2, (some .int), [], [], mC260)
-- LaneEyesModel.best(I)I
set_option maxRecDepth 20000 in
def mB261_0 : mCodeT := [(0, .aload_n 0, []), (1, .iconst 0, []), (2, .putfield 141, [10, 0]), (5, .aload_n 0, []), (6, .iload_n 1, []), (7, .iconst 1, []), (8, .invokevirtual 438, [0, 241, 2, 10]), (11, .ifCond .ne 5, []), (14, .iconst 0, []), (15, .ireturn, [])]
set_option maxRecDepth 20000 in
def mB261_16 : mCodeT := [(16, .aload_n 0, []), (17, .getfield 90, [10, 60]), (20, .bipush 36, []), (22, .iaload, []), (23, .istore_n 2, []), (24, .iconst (-1), []), (25, .istore_n 3, []), (26, .iconst 0, []), (27, .istore 4, []), (29, .iconst 0, []), (30, .istore 5, [])]
set_option maxRecDepth 20000 in
def mB261_32 : mCodeT := [(32, .iload 5, []), (34, .aload_n 0, []), (35, .invokevirtual 410, [0, 218, 0, 10]), (38, .if_icmp .ge 46, []), (41, .aload_n 0, []), (42, .getfield 90, [10, 60]), (45, .bipush 36, []), (47, .iload 5, []), (49, .iastore, []), (50, .aload_n 0, []), (51, .invokevirtual 456, [0, 234, 0, 10]), (54, .istore 6, []), (56, .iload_n 3, []), (57, .iconst (-1), []), (58, .if_icmp .eq 13, []), (61, .iload 6, []), (63, .iload 4, []), (65, .if_icmp .lt 6, []), (68, .goto 10, [])]
set_option maxRecDepth 20000 in
def mB261_71 : mCodeT := [(71, .iload 5, []), (73, .istore_n 3, []), (74, .iload 6, []), (76, .istore 4, [])]
set_option maxRecDepth 20000 in
def mB261_78 : mCodeT := [(78, .iinc 5 1, []), (81, .goto (-49), [])]
set_option maxRecDepth 20000 in
def mB261_84 : mCodeT := [(84, .aload_n 0, []), (85, .getfield 90, [10, 60]), (88, .bipush 36, []), (90, .iload_n 2, []), (91, .iastore, []), (92, .iload_n 1, []), (93, .ifCond .ne 7, []), (96, .iload_n 3, []), (97, .goto 8, [])]
set_option maxRecDepth 20000 in
def mB261_100 : mCodeT := [(100, .iload 4, []), (102, .invokestatic 441, [1, 235, 1])]
set_option maxRecDepth 20000 in
def mB261_105 : mCodeT := [(105, .ireturn, [])]
set_option maxRecDepth 20000 in
def mC261 : mCodeT := mB261_0 ++ (mB261_16 ++ (mB261_32 ++ (mB261_71 ++ (mB261_78 ++ (mB261_84 ++ (mB261_100 ++ (mB261_105)))))))
def mM261 : mRec := (yX12_best, cX12_best, 7, (some .int), [], [], mC261)
-- LaneEyesModel.away(I)I
set_option maxRecDepth 20000 in
def mB262_0 : mCodeT := [(0, .aload_n 0, []), (1, .iconst 0, []), (2, .putfield 141, [10, 0]), (5, .aload_n 0, []), (6, .iload_n 1, []), (7, .invokevirtual 447, [0, 239, 1, 10]), (10, .ifCond .ne 5, []), (13, .iconst 0, []), (14, .ireturn, [])]
set_option maxRecDepth 20000 in
def mB262_15 : mCodeT := [(15, .bipush 99, []), (17, .istore_n 2, [])]
set_option maxRecDepth 20000 in
def mB262_18 : mCodeT := [(18, .iload_n 2, []), (19, .ifCond .lt 38, []), (22, .aload_n 0, []), (23, .iconst 0, []), (24, .aload_n 0, []), (25, .getfield 7, [10, 1]), (28, .iload_n 1, []), (29, .iload_n 2, []), (30, .invokevirtual 396, [0, 227, 4, 10]), (33, .aload_n 0, []), (34, .iconst 0, []), (35, .aload_n 0, []), (36, .getfield 7, [10, 1]), (39, .invokevirtual 423, [0, 233, 2, 10]), (42, .aload_n 0, []), (43, .getfield 16, [10, 5]), (46, .if_icmp .gt 5, []), (49, .iload_n 2, []), (50, .ireturn, [])]
set_option maxRecDepth 20000 in
def mB262_51 : mCodeT := [(51, .iinc 2 (-1), []), (54, .goto (-36), [])]
set_option maxRecDepth 20000 in
def mB262_57 : mCodeT := [(57, .iconst (-1), []), (58, .ireturn, [])]
set_option maxRecDepth 20000 in
def mC262 : mCodeT := mB262_0 ++ (mB262_15 ++ (mB262_18 ++ (mB262_51 ++ (mB262_57))))
def mM262 : mRec := (yX12_away, cX12_away, 3, (some .int), [], [], mC262)
-- LaneEyesModel.swap()I
set_option maxRecDepth 20000 in
def mB263_0 : mCodeT := [(0, .aload_n 0, []), (1, .iconst 0, []), (2, .putfield 141, [10, 0]), (5, .aload_n 0, []), (6, .getfield 90, [10, 60]), (9, .bipush 37, []), (11, .iaload, []), (12, .istore_n 1, []), (13, .iconst (-1), []), (14, .istore_n 2, []), (15, .iconst 0, []), (16, .istore_n 3, [])]
set_option maxRecDepth 20000 in
def mB263_17 : mCodeT := [(17, .iload_n 3, []), (18, .sipush 999, []), (21, .if_icmp .gt 58, []), (24, .aload_n 0, []), (25, .getfield 90, [10, 60]), (28, .bipush 37, []), (30, .iload_n 3, []), (31, .iastore, []), (32, .iload_n 3, []), (33, .aload_n 0, []), (34, .getfield 19, [10, 6]), (37, .irem, []), (38, .ifCond .ne 14, []), (41, .aload_n 0, []), (42, .invokevirtual 456, [0, 234, 0, 10]), (45, .aload_n 0, []), (46, .getfield 16, [10, 5]), (49, .if_icmp .gt 7, [])]
set_option maxRecDepth 20000 in
def mB263_52 : mCodeT := [(52, .iconst 1, []), (53, .goto 4, [])]
set_option maxRecDepth 20000 in
def mB263_56 : mCodeT := [(56, .iconst 0, [])]
set_option maxRecDepth 20000 in
def mB263_57 : mCodeT := [(57, .istore 4, []), (59, .iload 4, []), (61, .ifCond .eq 8, []), (64, .iload_n 3, []), (65, .istore_n 2, []), (66, .goto 7, [])]
set_option maxRecDepth 20000 in
def mB263_69 : mCodeT := [(69, .sipush 999, []), (72, .istore_n 3, [])]
set_option maxRecDepth 20000 in
def mB263_73 : mCodeT := [(73, .iinc 3 1, []), (76, .goto (-59), [])]
set_option maxRecDepth 20000 in
def mB263_79 : mCodeT := [(79, .aload_n 0, []), (80, .getfield 90, [10, 60]), (83, .bipush 37, []), (85, .iload_n 1, []), (86, .iastore, []), (87, .iload_n 2, []), (88, .ireturn, [])]
set_option maxRecDepth 20000 in
def mC263 : mCodeT := mB263_0 ++ (mB263_17 ++ (mB263_52 ++ (mB263_56 ++ (mB263_57 ++ (mB263_69 ++ (mB263_73 ++ (mB263_79)))))))
def mM263 : mRec := (yX12_swap, cX12_swap, 5, (some .int), [], [], mC263)
-- LaneEyesModel.many()I
set_option maxRecDepth 20000 in
def mB264_0 : mCodeT := [(0, .aload_n 0, []), (1, .iconst 0, []), (2, .putfield 141, [10, 0]), (5, .iconst (-1), []), (6, .istore_n 1, []), (7, .iconst 0, []), (8, .istore_n 2, [])]
set_option maxRecDepth 20000 in
def mB264_9 : mCodeT := [(9, .iload_n 2, []), (10, .bipush 40, []), (12, .if_icmp .gt 44, []), (15, .aload_n 0, []), (16, .iload_n 2, []), (17, .putfield 384, [10, 66]), (20, .aload_n 0, []), (21, .invokevirtual 456, [0, 234, 0, 10]), (24, .aload_n 0, []), (25, .getfield 16, [10, 5]), (28, .if_icmp .gt 7, []), (31, .iconst 1, []), (32, .goto 4, [])]
set_option maxRecDepth 20000 in
def mB264_35 : mCodeT := [(35, .iconst 0, [])]
set_option maxRecDepth 20000 in
def mB264_36 : mCodeT := [(36, .istore_n 3, []), (37, .aload_n 0, []), (38, .iconst 0, []), (39, .putfield 384, [10, 66]), (42, .iload_n 3, []), (43, .ifCond .ne 5, []), (46, .iload_n 1, []), (47, .ireturn, [])]
set_option maxRecDepth 20000 in
def mB264_48 : mCodeT := [(48, .iload_n 2, []), (49, .istore_n 1, []), (50, .iinc 2 1, []), (53, .goto (-44), [])]
set_option maxRecDepth 20000 in
def mB264_56 : mCodeT := [(56, .iload_n 1, []), (57, .ireturn, [])]
set_option maxRecDepth 20000 in
def mC264 : mCodeT := mB264_0 ++ (mB264_9 ++ (mB264_35 ++ (mB264_36 ++ (mB264_48 ++ (mB264_56)))))
def mM264 : mRec := (yX12_many, cX12_many, 4, (some .int), [], [], mC264)
-- LaneEyesModel.halvesBy(I)I
set_option maxRecDepth 20000 in
def mB265_0 : mCodeT := [(0, .aload_n 0, []), (1, .iconst 0, []), (2, .iload_n 1, []), (3, .iconst (-1), []), (4, .iconst 0, []), (5, .invokevirtual 396, [0, 227, 4, 10]), (8, .aload_n 0, []), (9, .iconst 0, []), (10, .iload_n 1, []), (11, .invokevirtual 423, [0, 233, 2, 10]), (14, .istore_n 2, []), (15, .aload_n 0, []), (16, .iload_n 1, []), (17, .aload_n 0, []), (18, .getfield 7, [10, 1]), (21, .iconst (-1), []), (22, .iconst 0, []), (23, .invokevirtual 396, [0, 227, 4, 10]), (26, .aload_n 0, []), (27, .iload_n 1, []), (28, .aload_n 0, []), (29, .getfield 7, [10, 1]), (32, .invokevirtual 423, [0, 233, 2, 10]), (35, .istore_n 3, []), (36, .iload_n 2, []), (37, .iload_n 3, []), (38, .if_icmp .le 7, []), (41, .iload_n 2, []), (42, .goto 4, [])]
set_option maxRecDepth 20000 in
def mB265_45 : mCodeT := [(45, .iload_n 3, [])]
set_option maxRecDepth 20000 in
def mB265_46 : mCodeT := [(46, .ireturn, [])]
set_option maxRecDepth 20000 in
def mC265 : mCodeT := mB265_0 ++ (mB265_45 ++ (mB265_46))
def mM265 : mRec := (yX12_halvesBy, cX12_halvesBy, 4, (some .int), [], [], mC265)
-- LaneEyesModel.halves(I)I
set_option maxRecDepth 20000 in
def mB266_0 : mCodeT := [(0, .aload_n 0, []), (1, .iconst 0, []), (2, .putfield 141, [10, 0]), (5, .aload_n 0, []), (6, .iload_n 1, []), (7, .iconst 1, []), (8, .aload_n 0, []), (9, .getfield 7, [10, 1]), (12, .iconst 1, []), (13, .isub, []), (14, .invokestatic 426, [1, 178, 3]), (17, .iconst 1, []), (18, .invokevirtual 332, [0, 177, 2, 10]), (21, .ifCond .eq 14, []), (24, .aload_n 0, []), (25, .iload_n 1, []), (26, .invokevirtual 480, [0, 265, 1, 10]), (29, .invokestatic 441, [1, 235, 1]), (32, .goto 4, [])]
set_option maxRecDepth 20000 in
def mB266_35 : mCodeT := [(35, .iconst 0, [])]
set_option maxRecDepth 20000 in
def mB266_36 : mCodeT := [(36, .ireturn, [])]
set_option maxRecDepth 20000 in
def mC266 : mCodeT := mB266_0 ++ (mB266_35 ++ (mB266_36))
def mM266 : mRec := (yX12_halves, cX12_halves, 2, (some .int), [], [], mC266)
-- LaneEyesModel.bothAll()I
set_option maxRecDepth 20000 in
def mB267_0 : mCodeT := [(0, .aload_n 0, []), (1, .invokevirtual 420, [0, 228, 0, 10]), (4, .iconst 0, []), (5, .istore_n 1, []), (6, .iconst 0, []), (7, .istore_n 2, [])]
set_option maxRecDepth 20000 in
def mB267_8 : mCodeT := [(8, .iload_n 2, []), (9, .aload_n 0, []), (10, .invokevirtual 410, [0, 218, 0, 10]), (13, .if_icmp .ge 130, []), (16, .aload_n 0, []), (17, .iload_n 2, []), (18, .iconst 0, []), (19, .aload_n 0, []), (20, .getfield 7, [10, 1]), (23, .invokevirtual 413, [0, 232, 3, 10]), (26, .ifCond .ne 6, []), (29, .goto 108, [])]
set_option maxRecDepth 20000 in
def mB267_32 : mCodeT := [(32, .aload_n 0, []), (33, .getfield 393, [10, 70]), (36, .ifCond .ne 7, []), (39, .ldc_w 400, [1000000]), (42, .ireturn, [])]
set_option maxRecDepth 20000 in
def mB267_43 : mCodeT := [(43, .aload_n 0, []), (44, .iload_n 2, []), (45, .invokevirtual 401, [0, 225, 1, 10]), (48, .istore_n 3, []), (49, .aload_n 0, []), (50, .iload_n 2, []), (51, .iload_n 3, []), (52, .invokevirtual 404, [0, 229, 2, 10]), (55, .iconst 0, []), (56, .istore 4, [])]
set_option maxRecDepth 20000 in
def mB267_58 : mCodeT := [(58, .iload 4, []), (60, .aload_n 0, []), (61, .getfield 393, [10, 70]), (64, .if_icmp .ge 73, []), (67, .aload_n 0, []), (68, .iload 4, []), (70, .iload_n 3, []), (71, .invokevirtual 407, [0, 230, 2, 10]), (74, .istore 5, []), (76, .aload_n 0, []), (77, .iload 4, []), (79, .aload_n 0, []), (80, .getfield 393, [10, 70]), (83, .iadd, []), (84, .aload_n 0, []), (85, .getfield 393, [10, 70]), (88, .iconst 2, []), (89, .idiv, []), (90, .isub, []), (91, .aload_n 0, []), (92, .getfield 393, [10, 70]), (95, .irem, []), (96, .iload_n 3, []), (97, .invokevirtual 407, [0, 230, 2, 10]), (100, .istore 6, []), (102, .iload 5, []), (104, .iload 6, []), (106, .if_icmp .ge 8, []), (109, .iload 5, []), (111, .goto 5, [])]
set_option maxRecDepth 20000 in
def mB267_114 : mCodeT := [(114, .iload 6, [])]
set_option maxRecDepth 20000 in
def mB267_116 : mCodeT := [(116, .istore 7, []), (118, .iload 7, []), (120, .iload_n 1, []), (121, .if_icmp .le 8, []), (124, .iload 7, []), (126, .goto 4, [])]
set_option maxRecDepth 20000 in
def mB267_129 : mCodeT := [(129, .iload_n 1, [])]
set_option maxRecDepth 20000 in
def mB267_130 : mCodeT := [(130, .istore_n 1, []), (131, .iinc 4 1, []), (134, .goto (-76), [])]
set_option maxRecDepth 20000 in
def mB267_137 : mCodeT := [(137, .iinc 2 1, []), (140, .goto (-132), [])]
set_option maxRecDepth 20000 in
def mB267_143 : mCodeT := [(143, .iload_n 1, []), (144, .ireturn, [])]
set_option maxRecDepth 20000 in
def mC267 : mCodeT := mB267_0 ++ (mB267_8 ++ (mB267_32 ++ (mB267_43 ++ (mB267_58 ++ (mB267_114 ++ (mB267_116 ++ (mB267_129 ++ (mB267_130 ++ (mB267_137 ++ (mB267_143))))))))))
def mM267 : mRec := (yX12_bothAll, cX12_bothAll, 8, (some .int), [], [], mC267)
-- LaneEyesModel.two(I)I
set_option maxRecDepth 20000 in
def mB268_0 : mCodeT := [(0, .aload_n 0, []), (1, .iconst 0, []), (2, .putfield 141, [10, 0]), (5, .aload_n 0, []), (6, .iload_n 1, []), (7, .iconst 2, []), (8, .invokevirtual 438, [0, 241, 2, 10]), (11, .ifCond .ne 5, []), (14, .iconst 0, []), (15, .ireturn, [])]
set_option maxRecDepth 20000 in
def mB268_16 : mCodeT := [(16, .iload_n 1, []), (17, .iconst 2, []), (18, .if_icmp .ne 11, []), (21, .aload_n 0, []), (22, .invokevirtual 483, [0, 267, 0, 10]), (25, .invokestatic 441, [1, 235, 1]), (28, .ireturn, [])]
set_option maxRecDepth 20000 in
def mB268_29 : mCodeT := [(29, .iconst (-1), []), (30, .istore_n 2, []), (31, .ldc_w 400, [1000000]), (34, .istore_n 3, []), (35, .iconst 1, []), (36, .istore 4, [])]
set_option maxRecDepth 20000 in
def mB268_38 : mCodeT := [(38, .iload 4, []), (40, .aload_n 0, []), (41, .getfield 7, [10, 1]), (44, .if_icmp .ge 37, []), (47, .aload_n 0, []), (48, .iload 4, []), (50, .invokevirtual 480, [0, 265, 1, 10]), (53, .istore 5, []), (55, .iload_n 2, []), (56, .iconst (-1), []), (57, .if_icmp .eq 12, []), (60, .iload 5, []), (62, .iload_n 3, []), (63, .if_icmp .lt 6, []), (66, .goto 9, [])]
set_option maxRecDepth 20000 in
def mB268_69 : mCodeT := [(69, .iload 4, []), (71, .istore_n 2, []), (72, .iload 5, []), (74, .istore_n 3, [])]
set_option maxRecDepth 20000 in
def mB268_75 : mCodeT := [(75, .iinc 4 1, []), (78, .goto (-40), [])]
set_option maxRecDepth 20000 in
def mB268_81 : mCodeT := [(81, .iload_n 1, []), (82, .ifCond .ne 7, []), (85, .iload_n 2, []), (86, .goto 7, [])]
set_option maxRecDepth 20000 in
def mB268_89 : mCodeT := [(89, .iload_n 3, []), (90, .invokestatic 441, [1, 235, 1])]
set_option maxRecDepth 20000 in
def mB268_93 : mCodeT := [(93, .ireturn, [])]
set_option maxRecDepth 20000 in
def mC268 : mCodeT := mB268_0 ++ (mB268_16 ++ (mB268_29 ++ (mB268_38 ++ (mB268_69 ++ (mB268_75 ++ (mB268_81 ++ (mB268_89 ++ (mB268_93))))))))
def mM268 : mRec := (yX12_two, cX12_two, 6, (some .int), [], [], mC268)
-- LaneEyesModel.says(II)I
set_option maxRecDepth 20000 in
def mB269_0 : mCodeT := [(0, .iconst 0, []), (1, .istore_n 3, [])]
set_option maxRecDepth 20000 in
def mB269_2 : mCodeT := [(2, .iload_n 3, []), (3, .iconst 4, []), (4, .if_icmp .ge 28, []), (7, .aload_n 0, []), (8, .getfield 99, [10, 64]), (11, .bipush 6, []), (13, .iload_n 3, []), (14, .iadd, []), (15, .aload_n 0, []), (16, .getfield 38, [10, 14]), (19, .iconst 5, []), (20, .iload_n 2, []), (21, .imul, []), (22, .iload_n 3, []), (23, .iadd, []), (24, .iaload, []), (25, .iastore, []), (26, .iinc 3 1, []), (29, .goto (-27), [])]
set_option maxRecDepth 20000 in
def mB269_32 : mCodeT := [(32, .aload_n 0, []), (33, .aload_n 0, []), (34, .getfield 41, [10, 15]), (37, .iload_n 1, []), (38, .iaload, []), (39, .invokevirtual 390, [0, 221, 1, 10]), (42, .ireturn, [])]
set_option maxRecDepth 20000 in
def mC269 : mCodeT := mB269_0 ++ (mB269_2 ++ (mB269_32))
def mM269 : mRec := (yX12_says, cX12_says, 4, (some .int), [], [], mC269)
-- LaneEyesModel.errs(II)I
set_option maxRecDepth 20000 in
def mB270_0 : mCodeT := [(0, .iconst 0, []), (1, .istore_n 3, []), (2, .iconst 0, []), (3, .istore 4, [])]
set_option maxRecDepth 20000 in
def mB270_5 : mCodeT := [(5, .iload 4, []), (7, .aload_n 0, []), (8, .getfield 348, [10, 8]), (11, .if_icmp .ge 60, []), (14, .iload_n 3, []), (15, .aload_n 0, []), (16, .getfield 38, [10, 14]), (19, .iconst 5, []), (20, .iload 4, []), (22, .imul, []), (23, .iconst 4, []), (24, .iadd, []), (25, .iaload, []), (26, .iload_n 2, []), (27, .if_icmp .ne 35, []), (30, .aload_n 0, []), (31, .iload_n 1, []), (32, .iload 4, []), (34, .invokevirtual 486, [0, 269, 2, 10]), (37, .ifCond .eq 7, []), (40, .iconst 1, []), (41, .goto 4, [])]
set_option maxRecDepth 20000 in
def mB270_44 : mCodeT := [(44, .iconst 0, [])]
set_option maxRecDepth 20000 in
def mB270_45 : mCodeT := [(45, .iload_n 2, []), (46, .iconst 1, []), (47, .if_icmp .ne 7, []), (50, .iconst 1, []), (51, .goto 4, [])]
set_option maxRecDepth 20000 in
def mB270_54 : mCodeT := [(54, .iconst 0, [])]
set_option maxRecDepth 20000 in
def mB270_55 : mCodeT := [(55, .if_icmp .ne 7, []), (58, .iconst 1, []), (59, .goto 4, [])]
set_option maxRecDepth 20000 in
def mB270_62 : mCodeT := [(62, .iconst 0, [])]
set_option maxRecDepth 20000 in
def mB270_63 : mCodeT := [(63, .iadd, []), (64, .istore_n 3, []), (65, .iinc 4 1, []), (68, .goto (-63), [])]
set_option maxRecDepth 20000 in
def mB270_71 : mCodeT := [(71, .iload_n 3, []), (72, .ireturn, [])]
set_option maxRecDepth 20000 in
def mC270 : mCodeT := mB270_0 ++ (mB270_5 ++ (mB270_44 ++ (mB270_45 ++ (mB270_54 ++ (mB270_55 ++ (mB270_62 ++ (mB270_63 ++ (mB270_71))))))))
def mM270 : mRec := (yX12_errs, cX12_errs, 5, (some .int), [], [], mC270)
-- LaneEyesModel.game(II)I
set_option maxRecDepth 20000 in
def mB271_0 : mCodeT := [(0, .aload_n 0, []), (1, .iconst 0, []), (2, .putfield 141, [10, 0]), (5, .aload_n 0, []), (6, .iload_n 1, []), (7, .ifCond .lt 15, []), (10, .iload_n 1, []), (11, .aload_n 0, []), (12, .getfield 345, [10, 7]), (15, .if_icmp .ge 7, []), (18, .iconst 1, []), (19, .goto 4, [])]
set_option maxRecDepth 20000 in
def mB271_22 : mCodeT := [(22, .iconst 0, [])]
set_option maxRecDepth 20000 in
def mB271_23 : mCodeT := [(23, .iconst 1, []), (24, .invokevirtual 332, [0, 177, 2, 10]), (27, .ifCond .eq 21, []), (30, .aload_n 0, []), (31, .iload_n 2, []), (32, .iconst 1, []), (33, .invokevirtual 438, [0, 241, 2, 10]), (36, .ifCond .eq 12, []), (39, .aload_n 0, []), (40, .iload_n 1, []), (41, .iload_n 2, []), (42, .invokevirtual 489, [0, 270, 2, 10]), (45, .goto 4, [])]
set_option maxRecDepth 20000 in
def mB271_48 : mCodeT := [(48, .iconst 0, [])]
set_option maxRecDepth 20000 in
def mB271_49 : mCodeT := [(49, .ireturn, [])]
set_option maxRecDepth 20000 in
def mC271 : mCodeT := mB271_0 ++ (mB271_22 ++ (mB271_23 ++ (mB271_48 ++ (mB271_49))))
def mM271 : mRec := (yX12_game, cX12_game, 3, (some .int), [], [], mC271)
-- LaneEyesModel.fun()I
set_option maxRecDepth 20000 in
def mB272_0 : mCodeT := [(0, .aload_n 0, []), (1, .iconst 0, []), (2, .putfield 141, [10, 0]), (5, .iconst (-1), []), (6, .istore_n 1, []), (7, .iconst 0, []), (8, .istore_n 2, []), (9, .iconst 0, []), (10, .istore_n 3, [])]
set_option maxRecDepth 20000 in
def mB272_11 : mCodeT := [(11, .iload_n 3, []), (12, .aload_n 0, []), (13, .getfield 345, [10, 7]), (16, .if_icmp .ge 45, []), (19, .iconst 3, []), (20, .aload_n 0, []), (21, .iload_n 3, []), (22, .iconst 1, []), (23, .invokevirtual 489, [0, 270, 2, 10]), (26, .imul, []), (27, .aload_n 0, []), (28, .iload_n 3, []), (29, .iconst 0, []), (30, .invokevirtual 489, [0, 270, 2, 10]), (33, .iadd, []), (34, .istore 4, []), (36, .iload_n 1, []), (37, .iconst (-1), []), (38, .if_icmp .eq 12, []), (41, .iload 4, []), (43, .iload_n 2, []), (44, .if_icmp .lt 6, []), (47, .goto 8, [])]
set_option maxRecDepth 20000 in
def mB272_50 : mCodeT := [(50, .iload_n 3, []), (51, .istore_n 1, []), (52, .iload 4, []), (54, .istore_n 2, [])]
set_option maxRecDepth 20000 in
def mB272_55 : mCodeT := [(55, .iinc 3 1, []), (58, .goto (-47), [])]
set_option maxRecDepth 20000 in
def mB272_61 : mCodeT := [(61, .iload_n 1, []), (62, .ireturn, [])]
set_option maxRecDepth 20000 in
def mC272 : mCodeT := mB272_0 ++ (mB272_11 ++ (mB272_50 ++ (mB272_55 ++ (mB272_61))))
def mM272 : mRec := (yX12_fun, cX12_fun, 5, (some .int), [], [], mC272)
-- LaneEyesModel.jump(II)I
set_option maxRecDepth 20000 in
def mB273_0 : mCodeT := [(0, .aload_n 0, []), (1, .iconst 0, []), (2, .putfield 141, [10, 0]), (5, .aload_n 0, []), (6, .iload_n 1, []), (7, .iconst 1, []), (8, .sipush 999, []), (11, .invokestatic 426, [1, 178, 3]), (14, .ifCond .eq 18, []), (17, .iload_n 2, []), (18, .iconst 1, []), (19, .sipush 999, []), (22, .invokestatic 426, [1, 178, 3]), (25, .ifCond .eq 7, []), (28, .iconst 1, []), (29, .goto 4, [])]
set_option maxRecDepth 20000 in
def mB273_32 : mCodeT := [(32, .iconst 0, [])]
set_option maxRecDepth 20000 in
def mB273_33 : mCodeT := [(33, .iconst 1, []), (34, .invokevirtual 332, [0, 177, 2, 10]), (37, .ifCond .ne 5, []), (40, .iconst 0, []), (41, .ireturn, [])]
set_option maxRecDepth 20000 in
def mB273_42 : mCodeT := [(42, .iconst 0, []), (43, .istore_n 3, [])]
set_option maxRecDepth 20000 in
def mB273_44 : mCodeT := [(44, .iload_n 3, []), (45, .iload_n 2, []), (46, .imul, []), (47, .bipush 10, []), (49, .iload_n 3, []), (50, .isub, []), (51, .iload_n 1, []), (52, .imul, []), (53, .if_icmp .ge 9, []), (56, .iinc 3 1, []), (59, .goto (-15), [])]
set_option maxRecDepth 20000 in
def mB273_62 : mCodeT := [(62, .iload_n 3, []), (63, .ireturn, [])]
set_option maxRecDepth 20000 in
def mC273 : mCodeT := mB273_0 ++ (mB273_32 ++ (mB273_33 ++ (mB273_42 ++ (mB273_44 ++ (mB273_62)))))
def mM273 : mRec := (yX12_jump, cX12_jump, 4, (some .int), [], [], mC273)
-- LaneEyesModel.dummy(I)I
set_option maxRecDepth 20000 in
def mB274_0 : mCodeT := [(0, .aload_n 0, []), (1, .iconst 0, []), (2, .putfield 141, [10, 0]), (5, .aload_n 0, []), (6, .getfield 358, [10, 74]), (9, .bipush 12, []), (11, .if_icmp .eq 14, []), (14, .iload_n 1, []), (15, .iconst 0, []), (16, .sipush 999, []), (19, .invokestatic 426, [1, 178, 3]), (22, .ifCond .ne 9, [])]
set_option maxRecDepth 20000 in
def mB274_25 : mCodeT := [(25, .aload_n 0, []), (26, .iconst 2, []), (27, .invokevirtual 459, [0, 216, 1, 10]), (30, .ireturn, [])]
set_option maxRecDepth 20000 in
def mB274_31 : mCodeT := [(31, .aload_n 0, []), (32, .getfield 123, [10, 76]), (35, .aload_n 0, []), (36, .getfield 358, [10, 74]), (39, .iload_n 1, []), (40, .iastore, []), (41, .aload_n 0, []), (42, .dup, []), (43, .getfield 358, [10, 74]), (46, .iconst 1, []), (47, .iadd, []), (48, .putfield 358, [10, 74]), (51, .aload_n 0, []), (52, .getfield 358, [10, 74]), (55, .ireturn, [])]
set_option maxRecDepth 20000 in
def mC274 : mCodeT := mB274_0 ++ (mB274_25 ++ (mB274_31))
def mM274 : mRec := (yX12_dummy, cX12_dummy, 2, (some .int), [], [], mC274)
-- LaneEyesModel.sumOf()I
set_option maxRecDepth 20000 in
def mB275_0 : mCodeT := [(0, .iconst 0, []), (1, .istore_n 1, []), (2, .iconst 0, []), (3, .istore_n 2, [])]
set_option maxRecDepth 20000 in
def mB275_4 : mCodeT := [(4, .iload_n 2, []), (5, .aload_n 0, []), (6, .getfield 358, [10, 74]), (9, .if_icmp .ge 18, []), (12, .iload_n 1, []), (13, .aload_n 0, []), (14, .getfield 123, [10, 76]), (17, .iload_n 2, []), (18, .iaload, []), (19, .iadd, []), (20, .istore_n 1, []), (21, .iinc 2 1, []), (24, .goto (-20), [])]
set_option maxRecDepth 20000 in
def mB275_27 : mCodeT := [(27, .iload_n 1, []), (28, .ireturn, [])]
set_option maxRecDepth 20000 in
def mC275 : mCodeT := mB275_0 ++ (mB275_4 ++ (mB275_27))
def mM275 : mRec := (yX12_sumOf, cX12_sumOf, 3, (some .int), [], [], mC275)
-- LaneEyesModel.portion(III)I
set_option maxRecDepth 20000 in
def mB276_0 : mCodeT := [(0, .iload_n 1, []), (1, .istore_n 3, []), (2, .iload_n 0, []), (3, .istore 4, [])]
set_option maxRecDepth 20000 in
def mB276_5 : mCodeT := [(5, .iload 4, []), (7, .ifCond .eq 19, []), (10, .iload_n 3, []), (11, .iload 4, []), (13, .irem, []), (14, .istore 5, []), (16, .iload 4, []), (18, .istore_n 3, []), (19, .iload 5, []), (21, .istore 4, []), (23, .goto (-18), [])]
set_option maxRecDepth 20000 in
def mB276_26 : mCodeT := [(26, .iload_n 2, []), (27, .ifCond .ne 7, []), (30, .iload_n 0, []), (31, .goto 4, [])]
set_option maxRecDepth 20000 in
def mB276_34 : mCodeT := [(34, .iload_n 1, [])]
set_option maxRecDepth 20000 in
def mB276_35 : mCodeT := [(35, .iload_n 3, []), (36, .idiv, []), (37, .ireturn, [])]
set_option maxRecDepth 20000 in
def mC276 : mCodeT := mB276_0 ++ (mB276_5 ++ (mB276_26 ++ (mB276_34 ++ (mB276_35))))
def mM276 : mRec := (yX12_portion, cX12_portion, 6, (some .int), [], [], mC276)
-- LaneEyesModel.dummies(I)I
set_option maxRecDepth 20000 in
def mB277_0 : mCodeT := [(0, .aload_n 0, []), (1, .iconst 0, []), (2, .putfield 141, [10, 0]), (5, .aload_n 0, []), (6, .iload_n 1, []), (7, .iconst 3, []), (8, .invokevirtual 438, [0, 241, 2, 10]), (11, .ifCond .ne 5, []), (14, .iconst 0, []), (15, .ireturn, [])]
set_option maxRecDepth 20000 in
def mB277_16 : mCodeT := [(16, .iload_n 1, []), (17, .iconst 2, []), (18, .if_icmp .ge 27, []), (21, .aload_n 0, []), (22, .invokevirtual 492, [0, 275, 0, 10]), (25, .aload_n 0, []), (26, .getfield 358, [10, 74]), (29, .ifCond .ne 7, []), (32, .iconst 1, []), (33, .goto 7, [])]
set_option maxRecDepth 20000 in
def mB277_36 : mCodeT := [(36, .aload_n 0, []), (37, .getfield 358, [10, 74])]
set_option maxRecDepth 20000 in
def mB277_40 : mCodeT := [(40, .iload_n 1, []), (41, .invokestatic 495, [1, 276, 3]), (44, .ireturn, [])]
set_option maxRecDepth 20000 in
def mB277_45 : mCodeT := [(45, .iconst (-1), []), (46, .istore_n 2, []), (47, .iconst 0, []), (48, .istore_n 3, []), (49, .iconst 0, []), (50, .istore 4, [])]
set_option maxRecDepth 20000 in
def mB277_52 : mCodeT := [(52, .iload 4, []), (54, .aload_n 0, []), (55, .getfield 358, [10, 74]), (58, .if_icmp .ge 54, []), (61, .aload_n 0, []), (62, .getfield 123, [10, 76]), (65, .iload 4, []), (67, .iaload, []), (68, .iload_n 2, []), (69, .if_icmp .le 13, []), (72, .aload_n 0, []), (73, .getfield 123, [10, 76]), (76, .iload 4, []), (78, .iaload, []), (79, .goto 4, [])]
set_option maxRecDepth 20000 in
def mB277_82 : mCodeT := [(82, .iload_n 2, [])]
set_option maxRecDepth 20000 in
def mB277_83 : mCodeT := [(83, .istore_n 2, []), (84, .iload_n 3, []), (85, .aload_n 0, []), (86, .getfield 123, [10, 76]), (89, .iload 4, []), (91, .iaload, []), (92, .aload_n 0, []), (93, .getfield 16, [10, 5]), (96, .if_icmp .le 7, []), (99, .iconst 1, []), (100, .goto 4, [])]
set_option maxRecDepth 20000 in
def mB277_103 : mCodeT := [(103, .iconst 0, [])]
set_option maxRecDepth 20000 in
def mB277_104 : mCodeT := [(104, .iadd, []), (105, .istore_n 3, []), (106, .iinc 4 1, []), (109, .goto (-57), [])]
set_option maxRecDepth 20000 in
def mB277_112 : mCodeT := [(112, .iload_n 1, []), (113, .iconst 2, []), (114, .if_icmp .ne 7, []), (117, .iload_n 2, []), (118, .goto 4, [])]
set_option maxRecDepth 20000 in
def mB277_121 : mCodeT := [(121, .iload_n 3, [])]
set_option maxRecDepth 20000 in
def mB277_122 : mCodeT := [(122, .ireturn, [])]
set_option maxRecDepth 20000 in
def mC277 : mCodeT := mB277_0 ++ (mB277_16 ++ (mB277_36 ++ (mB277_40 ++ (mB277_45 ++ (mB277_52 ++ (mB277_82 ++ (mB277_83 ++ (mB277_103 ++ (mB277_104 ++ (mB277_112 ++ (mB277_121 ++ (mB277_122))))))))))))
def mM277 : mRec := (yX12_dummies, cX12_dummies, 5, (some .int), [], [], mC277)
-- LaneEyesModel.more(I)I
set_option maxRecDepth 20000 in
def mB278_0 : mCodeT := [(0, .aload_n 0, []), (1, .iconst 0, []), (2, .putfield 141, [10, 0]), (5, .aload_n 0, []), (6, .iload_n 1, []), (7, .iconst 1, []), (8, .sipush 999, []), (11, .invokestatic 426, [1, 178, 3]), (14, .iconst 1, []), (15, .invokevirtual 332, [0, 177, 2, 10]), (18, .ifCond .ne 5, []), (21, .iconst 0, []), (22, .ireturn, [])]
set_option maxRecDepth 20000 in
def mB278_23 : mCodeT := [(23, .iconst 0, []), (24, .istore_n 2, [])]
set_option maxRecDepth 20000 in
def mB278_25 : mCodeT := [(25, .aload_n 0, []), (26, .invokevirtual 492, [0, 275, 0, 10]), (29, .iload_n 1, []), (30, .aload_n 0, []), (31, .getfield 358, [10, 74]), (34, .iload_n 2, []), (35, .iadd, []), (36, .imul, []), (37, .if_icmp .le 9, []), (40, .iinc 2 1, []), (43, .goto (-18), [])]
set_option maxRecDepth 20000 in
def mB278_46 : mCodeT := [(46, .iload_n 2, []), (47, .ireturn, [])]
set_option maxRecDepth 20000 in
def mC278 : mCodeT := mB278_0 ++ (mB278_23 ++ (mB278_25 ++ (mB278_46)))
def mM278 : mRec := (yX12_more, cX12_more, 3, (some .int), [], [], mC278)
-- LaneEyesModel.heads(II)I
set_option maxRecDepth 20000 in
def mB279_0 : mCodeT := [(0, .aload_n 0, []), (1, .iconst 0, []), (2, .putfield 141, [10, 0]), (5, .aload_n 0, []), (6, .getfield 361, [10, 75]), (9, .bipush 8, []), (11, .if_icmp .eq 25, []), (14, .iload_n 1, []), (15, .ifCond .lt 21, []), (18, .iload_n 1, []), (19, .aload_n 0, []), (20, .getfield 13, [10, 2]), (23, .if_icmp .ge 13, []), (26, .iload_n 2, []), (27, .iconst 0, []), (28, .bipush 12, []), (30, .invokestatic 426, [1, 178, 3]), (33, .ifCond .ne 9, [])]
set_option maxRecDepth 20000 in
def mB279_36 : mCodeT := [(36, .aload_n 0, []), (37, .iconst 2, []), (38, .invokevirtual 459, [0, 216, 1, 10]), (41, .ireturn, [])]
set_option maxRecDepth 20000 in
def mB279_42 : mCodeT := [(42, .aload_n 0, []), (43, .getfield 126, [10, 77]), (46, .iconst 2, []), (47, .aload_n 0, []), (48, .getfield 361, [10, 75]), (51, .imul, []), (52, .iload_n 1, []), (53, .iastore, []), (54, .aload_n 0, []), (55, .getfield 126, [10, 77]), (58, .iconst 2, []), (59, .aload_n 0, []), (60, .getfield 361, [10, 75]), (63, .imul, []), (64, .iconst 1, []), (65, .iadd, []), (66, .iload_n 2, []), (67, .iastore, []), (68, .aload_n 0, []), (69, .dup, []), (70, .getfield 361, [10, 75]), (73, .iconst 1, []), (74, .iadd, []), (75, .putfield 361, [10, 75]), (78, .aload_n 0, []), (79, .getfield 361, [10, 75]), (82, .ireturn, [])]
set_option maxRecDepth 20000 in
def mC279 : mCodeT := mB279_0 ++ (mB279_36 ++ (mB279_42))
def mM279 : mRec := (yX12_heads, cX12_heads, 3, (some .int), [], [], mC279)
-- LaneEyesModel.forget()V
set_option maxRecDepth 20000 in
def mB280_0 : mCodeT := [(0, .aload_n 0, []), (1, .iconst 0, []), (2, .putfield 141, [10, 0]), (5, .aload_n 0, []), (6, .iconst 0, []), (7, .putfield 358, [10, 74]), (10, .aload_n 0, []), (11, .iconst 0, []), (12, .putfield 361, [10, 75]), (15, .return_, [])]
set_option maxRecDepth 20000 in
def mC280 : mCodeT := mB280_0
def mM280 : mRec := (yX12_forget, cX12_forget, 1, none, [], [], mC280)
-- LaneEyesModel.isCounted(I)Z
set_option maxRecDepth 20000 in
def mB281_0 : mCodeT := [(0, .iconst 0, []), (1, .istore_n 2, [])]
set_option maxRecDepth 20000 in
def mB281_2 : mCodeT := [(2, .iload_n 2, []), (3, .aload_n 0, []), (4, .getfield 361, [10, 75]), (7, .if_icmp .ge 87, []), (10, .iconst 0, []), (11, .istore_n 3, []), (12, .iconst 0, []), (13, .istore 4, [])]
set_option maxRecDepth 20000 in
def mB281_15 : mCodeT := [(15, .iload 4, []), (17, .aload_n 0, []), (18, .getfield 339, [10, 3]), (21, .if_icmp .ge 51, []), (24, .iload_n 3, []), (25, .iload_n 1, []), (26, .iload 4, []), (28, .ishr, []), (29, .iconst 1, []), (30, .iand, []), (31, .ifCond .ne 32, []), (34, .aload_n 0, []), (35, .getfield 90, [10, 60]), (38, .iconst 0, []), (39, .iload 4, []), (41, .iadd, []), (42, .iaload, []), (43, .aload_n 0, []), (44, .getfield 7, [10, 1]), (47, .idiv, []), (48, .aload_n 0, []), (49, .getfield 126, [10, 77]), (52, .iconst 2, []), (53, .iload_n 2, []), (54, .imul, []), (55, .iaload, []), (56, .if_icmp .ne 7, []), (59, .iconst 1, []), (60, .goto 4, [])]
set_option maxRecDepth 20000 in
def mB281_63 : mCodeT := [(63, .iconst 0, [])]
set_option maxRecDepth 20000 in
def mB281_64 : mCodeT := [(64, .iadd, []), (65, .istore_n 3, []), (66, .iinc 4 1, []), (69, .goto (-54), [])]
set_option maxRecDepth 20000 in
def mB281_72 : mCodeT := [(72, .iload_n 3, []), (73, .aload_n 0, []), (74, .getfield 126, [10, 77]), (77, .iconst 2, []), (78, .iload_n 2, []), (79, .imul, []), (80, .iconst 1, []), (81, .iadd, []), (82, .iaload, []), (83, .if_icmp .eq 5, []), (86, .iconst 0, []), (87, .ireturn, [])]
set_option maxRecDepth 20000 in
def mB281_88 : mCodeT := [(88, .iinc 2 1, []), (91, .goto (-89), [])]
set_option maxRecDepth 20000 in
def mB281_94 : mCodeT := [(94, .iconst 1, []), (95, .ireturn, [])]
set_option maxRecDepth 20000 in
def mC281 : mCodeT := mB281_0 ++ (mB281_2 ++ (mB281_15 ++ (mB281_63 ++ (mB281_64 ++ (mB281_72 ++ (mB281_88 ++ (mB281_94)))))))
def mM281 : mRec := (yX12_isCounted, cX12_isCounted, 5, (some .boolean), [], [], mC281)
-- LaneEyesModel.missing(I)I
set_option maxRecDepth 20000 in
def mB282_0 : mCodeT := [(0, .aload_n 0, []), (1, .iconst 0, []), (2, .putfield 141, [10, 0]), (5, .aload_n 0, []), (6, .iload_n 1, []), (7, .iconst 2, []), (8, .invokevirtual 438, [0, 241, 2, 10]), (11, .ifCond .ne 5, []), (14, .iconst 0, []), (15, .ireturn, [])]
set_option maxRecDepth 20000 in
def mB282_16 : mCodeT := [(16, .iconst 0, []), (17, .istore_n 2, []), (18, .iconst (-1), []), (19, .istore_n 3, []), (20, .iconst 1, []), (21, .aload_n 0, []), (22, .getfield 339, [10, 3]), (25, .ishl, []), (26, .iconst 1, []), (27, .isub, []), (28, .istore 4, []), (30, .iconst 0, []), (31, .istore 5, [])]
set_option maxRecDepth 20000 in
def mB282_33 : mCodeT := [(33, .iload 5, []), (35, .iconst 1, []), (36, .aload_n 0, []), (37, .getfield 339, [10, 3]), (40, .ishl, []), (41, .if_icmp .ge 51, []), (44, .aload_n 0, []), (45, .iload 5, []), (47, .invokevirtual 498, [0, 281, 1, 10]), (50, .ifCond .ne 6, []), (53, .goto 33, [])]
set_option maxRecDepth 20000 in
def mB282_56 : mCodeT := [(56, .iinc 2 1, []), (59, .iload_n 3, []), (60, .iconst (-1), []), (61, .if_icmp .eq 15, []), (64, .iload 5, []), (66, .invokestatic 378, [1, 181, 1]), (69, .iload_n 3, []), (70, .invokestatic 378, [1, 181, 1]), (73, .if_icmp .ge 6, [])]
set_option maxRecDepth 20000 in
def mB282_76 : mCodeT := [(76, .iload 5, []), (78, .istore_n 3, [])]
set_option maxRecDepth 20000 in
def mB282_79 : mCodeT := [(79, .iload 4, []), (81, .iload 5, []), (83, .iand, []), (84, .istore 4, [])]
set_option maxRecDepth 20000 in
def mB282_86 : mCodeT := [(86, .iinc 5 1, []), (89, .goto (-56), [])]
set_option maxRecDepth 20000 in
def mB282_92 : mCodeT := [(92, .iload_n 1, []), (93, .ifCond .ne 7, []), (96, .iload_n 2, []), (97, .goto 22, [])]
set_option maxRecDepth 20000 in
def mB282_100 : mCodeT := [(100, .iload_n 1, []), (101, .iconst 1, []), (102, .if_icmp .ne 7, []), (105, .iload_n 3, []), (106, .goto 13, [])]
set_option maxRecDepth 20000 in
def mB282_109 : mCodeT := [(109, .iload_n 2, []), (110, .ifCond .ne 7, []), (113, .iconst 0, []), (114, .goto 5, [])]
set_option maxRecDepth 20000 in
def mB282_117 : mCodeT := [(117, .iload 4, [])]
set_option maxRecDepth 20000 in
def mB282_119 : mCodeT := [(119, .ireturn, [])]
set_option maxRecDepth 20000 in
def mC282 : mCodeT := mB282_0 ++ (mB282_16 ++ (mB282_33 ++ (mB282_56 ++ (mB282_76 ++ (mB282_79 ++ (mB282_86 ++ (mB282_92 ++ (mB282_100 ++ (mB282_109 ++ (mB282_117 ++ (mB282_119)))))))))))
def mM282 : mRec := (yX12_missing, cX12_missing, 6, (some .int), [], [], mC282)
-- LaneEyesModel.draw(I)I
set_option maxRecDepth 20000 in
def mB283_0 : mCodeT := [(0, .aload_n 0, []), (1, .aload_n 0, []), (2, .getfield 501, [10, 78]), (5, .ldc_w 504, [1103515245]), (8, .imul, []), (9, .sipush 12345, []), (12, .iadd, []), (13, .putfield 501, [10, 78]), (16, .aload_n 0, []), (17, .getfield 501, [10, 78]), (20, .bipush 16, []), (22, .ishr, []), (23, .sipush 32767, []), (26, .iand, []), (27, .iload_n 1, []), (28, .irem, []), (29, .ireturn, [])]
set_option maxRecDepth 20000 in
def mC283 : mCodeT := mB283_0
def mM283 : mRec := (yX12_draw, cX12_draw, 2, (some .int), [], [], mC283)
-- LaneEyesModel.troubles()I
set_option maxRecDepth 20000 in
def mB284_0 : mCodeT := [(0, .iconst 0, []), (1, .istore_n 1, []), (2, .iconst 0, []), (3, .istore_n 2, [])]
set_option maxRecDepth 20000 in
def mB284_4 : mCodeT := [(4, .iload_n 2, []), (5, .aload_n 0, []), (6, .getfield 339, [10, 3]), (9, .if_icmp .ge 17, []), (12, .iload_n 1, []), (13, .aload_n 0, []), (14, .iload_n 2, []), (15, .invokevirtual 453, [0, 226, 1, 10]), (18, .iadd, []), (19, .istore_n 1, []), (20, .iinc 2 1, []), (23, .goto (-19), [])]
set_option maxRecDepth 20000 in
def mB284_26 : mCodeT := [(26, .iload_n 1, []), (27, .ireturn, [])]
set_option maxRecDepth 20000 in
def mC284 : mCodeT := mB284_0 ++ (mB284_4 ++ (mB284_26))
def mM284 : mRec := (yX12_troubles, cX12_troubles, 3, (some .int), [], [], mC284)
-- LaneEyesModel.week(III)I
set_option maxRecDepth 20000 in
def mB285_0 : mCodeT := [(0, .aload_n 0, []), (1, .iconst 0, []), (2, .putfield 141, [10, 0]), (5, .aload_n 0, []), (6, .iload_n 3, []), (7, .iconst 2, []), (8, .invokevirtual 438, [0, 241, 2, 10]), (11, .ifCond .eq 18, []), (14, .aload_n 0, []), (15, .iload_n 2, []), (16, .iconst 0, []), (17, .bipush 100, []), (19, .invokestatic 426, [1, 178, 3]), (22, .iconst 2, []), (23, .invokevirtual 332, [0, 177, 2, 10]), (26, .ifCond .ne 5, [])]
set_option maxRecDepth 20000 in
def mB285_29 : mCodeT := [(29, .iconst 0, []), (30, .ireturn, [])]
set_option maxRecDepth 20000 in
def mB285_31 : mCodeT := [(31, .aload_n 0, []), (32, .iload_n 1, []), (33, .putfield 501, [10, 78]), (36, .iconst 0, []), (37, .istore 4, []), (39, .iconst 0, []), (40, .istore 5, []), (42, .iconst 0, []), (43, .istore 6, []), (45, .aload_n 0, []), (46, .invokevirtual 505, [0, 284, 0, 10]), (49, .istore 7, []), (51, .aload_n 0, []), (52, .invokevirtual 420, [0, 228, 0, 10]), (55, .iconst 0, []), (56, .istore 8, [])]
set_option maxRecDepth 20000 in
def mB285_58 : mCodeT := [(58, .iload 8, []), (60, .iload_n 2, []), (61, .if_icmp .ge 177, []), (64, .iload 7, []), (66, .ifCond .le 172, []), (69, .aload_n 0, []), (70, .iload 7, []), (72, .invokevirtual 508, [0, 283, 1, 10]), (75, .istore 9, []), (77, .iconst 0, []), (78, .istore 10, [])]
set_option maxRecDepth 20000 in
def mB285_80 : mCodeT := [(80, .iload 9, []), (82, .aload_n 0, []), (83, .iload 10, []), (85, .invokevirtual 453, [0, 226, 1, 10]), (88, .if_icmp .lt 20, []), (91, .iload 9, []), (93, .aload_n 0, []), (94, .iload 10, []), (96, .invokevirtual 453, [0, 226, 1, 10]), (99, .isub, []), (100, .istore 9, []), (102, .iinc 10 1, []), (105, .goto (-25), [])]
set_option maxRecDepth 20000 in
def mB285_108 : mCodeT := [(108, .ldc_w 400, [1000000]), (111, .istore 11, []), (113, .aload_n 0, []), (114, .getfield 393, [10, 70]), (117, .ifCond .le 53, []), (120, .aload_n 0, []), (121, .aload_n 0, []), (122, .getfield 393, [10, 70]), (125, .invokevirtual 508, [0, 283, 1, 10]), (128, .istore 12, []), (130, .aload_n 0, []), (131, .aload_n 0, []), (132, .getfield 90, [10, 60]), (135, .iconst 0, []), (136, .iload 10, []), (138, .iadd, []), (139, .iaload, []), (140, .invokevirtual 401, [0, 225, 1, 10]), (143, .istore 13, []), (145, .aload_n 0, []), (146, .aload_n 0, []), (147, .getfield 90, [10, 60]), (150, .iconst 0, []), (151, .iload 10, []), (153, .iadd, []), (154, .iaload, []), (155, .iload 13, []), (157, .invokevirtual 404, [0, 229, 2, 10]), (160, .aload_n 0, []), (161, .iload 12, []), (163, .iload 13, []), (165, .invokevirtual 407, [0, 230, 2, 10]), (168, .istore 11, [])]
set_option maxRecDepth 20000 in
def mB285_170 : mCodeT := [(170, .iload 5, []), (172, .iload 11, []), (174, .aload_n 0, []), (175, .getfield 16, [10, 5]), (178, .if_icmp .le 7, []), (181, .iconst 1, []), (182, .goto 4, [])]
set_option maxRecDepth 20000 in
def mB285_185 : mCodeT := [(185, .iconst 0, [])]
set_option maxRecDepth 20000 in
def mB285_186 : mCodeT := [(186, .iadd, []), (187, .istore 5, []), (189, .iload 11, []), (191, .aload_n 0, []), (192, .getfield 16, [10, 5]), (195, .if_icmp .le 10, []), (198, .aload_n 0, []), (199, .getfield 16, [10, 5]), (202, .goto 5, [])]
set_option maxRecDepth 20000 in
def mB285_205 : mCodeT := [(205, .iload 11, [])]
set_option maxRecDepth 20000 in
def mB285_207 : mCodeT := [(207, .istore 11, []), (209, .iload 4, []), (211, .iload 11, []), (213, .iadd, []), (214, .istore 4, []), (216, .iload 11, []), (218, .iload 6, []), (220, .if_icmp .le 8, []), (223, .iload 11, []), (225, .goto 5, [])]
set_option maxRecDepth 20000 in
def mB285_228 : mCodeT := [(228, .iload 6, [])]
set_option maxRecDepth 20000 in
def mB285_230 : mCodeT := [(230, .istore 6, []), (232, .iinc 8 1, []), (235, .goto (-177), [])]
set_option maxRecDepth 20000 in
def mB285_238 : mCodeT := [(238, .iload_n 3, []), (239, .ifCond .ne 8, []), (242, .iload 4, []), (244, .goto 15, [])]
set_option maxRecDepth 20000 in
def mB285_247 : mCodeT := [(247, .iload_n 3, []), (248, .iconst 1, []), (249, .if_icmp .ne 8, []), (252, .iload 5, []), (254, .goto 5, [])]
set_option maxRecDepth 20000 in
def mB285_257 : mCodeT := [(257, .iload 6, [])]
set_option maxRecDepth 20000 in
def mB285_259 : mCodeT := [(259, .ireturn, [])]
set_option maxRecDepth 20000 in
def mC285 : mCodeT := mB285_0 ++ (mB285_29 ++ (mB285_31 ++ (mB285_58 ++ (mB285_80 ++ (mB285_108 ++ (mB285_170 ++ (mB285_185 ++ (mB285_186 ++ (mB285_205 ++ (mB285_207 ++ (mB285_228 ++ (mB285_230 ++ (mB285_238 ++ (mB285_247 ++ (mB285_257 ++ (mB285_259))))))))))))))))
def mM285 : mRec := (yX12_week, cX12_week, 14, (some .int), [], [], mC285)
-- LaneEyesModel.blind()J
set_option maxRecDepth 20000 in
def mB286_0 : mCodeT := [(0, .aload_n 0, []), (1, .iconst 0, []), (2, .putfield 141, [10, 0]), (5, .aload_n 0, []), (6, .invokevirtual 420, [0, 228, 0, 10]), (9, .lconst 0, []), (10, .lstore_n 1, []), (11, .iconst 0, []), (12, .istore_n 3, [])]
set_option maxRecDepth 20000 in
def mB286_13 : mCodeT := [(13, .iload_n 3, []), (14, .aload_n 0, []), (15, .invokevirtual 410, [0, 218, 0, 10]), (18, .if_icmp .ge 30, []), (21, .lload_n 1, []), (22, .aload_n 0, []), (23, .iload_n 3, []), (24, .invokevirtual 417, [0, 231, 1, 10]), (27, .ldc_w 400, [1000000]), (30, .if_icmp .lt 9, []), (33, .lconst 1, []), (34, .iload_n 3, []), (35, .lshl, []), (36, .goto 4, [])]
set_option maxRecDepth 20000 in
def mB286_39 : mCodeT := [(39, .lconst 0, [])]
set_option maxRecDepth 20000 in
def mB286_40 : mCodeT := [(40, .lor, []), (41, .lstore_n 1, []), (42, .iinc 3 1, []), (45, .goto (-32), [])]
set_option maxRecDepth 20000 in
def mB286_48 : mCodeT := [(48, .lload_n 1, []), (49, .lreturn, [])]
set_option maxRecDepth 20000 in
def mC286 : mCodeT := mB286_0 ++ (mB286_13 ++ (mB286_39 ++ (mB286_40 ++ (mB286_48))))
def mM286 : mRec := (yX12_blind, cX12_blind, 4, (some .long), [], [], mC286)
-- LaneEyesModel.without(I)I
set_option maxRecDepth 20000 in
def mB287_0 : mCodeT := [(0, .aload_n 0, []), (1, .iconst 0, []), (2, .putfield 141, [10, 0]), (5, .aload_n 0, []), (6, .iload_n 1, []), (7, .invokevirtual 447, [0, 239, 1, 10]), (10, .ifCond .ne 5, []), (13, .iconst 0, []), (14, .ireturn, [])]
set_option maxRecDepth 20000 in
def mB287_15 : mCodeT := [(15, .aload_n 0, []), (16, .getfield 90, [10, 60]), (19, .bipush 24, []), (21, .iload_n 1, []), (22, .iadd, []), (23, .iaload, []), (24, .istore_n 2, []), (25, .aload_n 0, []), (26, .getfield 90, [10, 60]), (29, .bipush 24, []), (31, .iload_n 1, []), (32, .iadd, []), (33, .iconst 0, []), (34, .iastore, []), (35, .aload_n 0, []), (36, .invokevirtual 456, [0, 234, 0, 10]), (39, .istore_n 3, []), (40, .aload_n 0, []), (41, .getfield 90, [10, 60]), (44, .bipush 24, []), (46, .iload_n 1, []), (47, .iadd, []), (48, .iload_n 2, []), (49, .iastore, []), (50, .iload_n 3, []), (51, .invokestatic 441, [1, 235, 1]), (54, .ireturn, [])]
set_option maxRecDepth 20000 in
def mC287 : mCodeT := mB287_0 ++ (mB287_15)
def mM287 : mRec := (yX12_without, cX12_without, 4, (some .int), [], [], mC287)
-- LaneEyesModel.risk(I)I
set_option maxRecDepth 20000 in
def mB288_0 : mCodeT := [(0, .aload_n 0, []), (1, .iconst 0, []), (2, .putfield 141, [10, 0]), (5, .aload_n 0, []), (6, .iload_n 1, []), (7, .iconst 1, []), (8, .invokevirtual 438, [0, 241, 2, 10]), (11, .ifCond .ne 5, []), (14, .iconst 0, []), (15, .ireturn, [])]
set_option maxRecDepth 20000 in
def mB288_16 : mCodeT := [(16, .aload_n 0, []), (17, .invokevirtual 505, [0, 284, 0, 10]), (20, .istore_n 2, []), (21, .iload_n 2, []), (22, .ifCond .ne 5, []), (25, .iload_n 1, []), (26, .ireturn, [])]
set_option maxRecDepth 20000 in
def mB288_27 : mCodeT := [(27, .aload_n 0, []), (28, .invokevirtual 420, [0, 228, 0, 10]), (31, .aload_n 0, []), (32, .getfield 393, [10, 70]), (35, .ifCond .ne 5, []), (38, .iconst 1, []), (39, .ireturn, [])]
set_option maxRecDepth 20000 in
def mB288_40 : mCodeT := [(40, .iconst 0, []), (41, .istore_n 3, []), (42, .iconst 0, []), (43, .istore 4, [])]
set_option maxRecDepth 20000 in
def mB288_45 : mCodeT := [(45, .iload 4, []), (47, .aload_n 0, []), (48, .getfield 339, [10, 3]), (51, .if_icmp .ge 32, []), (54, .iload_n 3, []), (55, .aload_n 0, []), (56, .iload 4, []), (58, .invokevirtual 453, [0, 226, 1, 10]), (61, .aload_n 0, []), (62, .aload_n 0, []), (63, .getfield 90, [10, 60]), (66, .iconst 0, []), (67, .iload 4, []), (69, .iadd, []), (70, .iaload, []), (71, .invokevirtual 444, [0, 242, 1, 10]), (74, .imul, []), (75, .iadd, []), (76, .istore_n 3, []), (77, .iinc 4 1, []), (80, .goto (-35), [])]
set_option maxRecDepth 20000 in
def mB288_83 : mCodeT := [(83, .iload_n 3, []), (84, .iload_n 2, []), (85, .aload_n 0, []), (86, .getfield 393, [10, 70]), (89, .imul, []), (90, .iload_n 1, []), (91, .invokestatic 495, [1, 276, 3]), (94, .ireturn, [])]
set_option maxRecDepth 20000 in
def mC288 : mCodeT := mB288_0 ++ (mB288_16 ++ (mB288_27 ++ (mB288_40 ++ (mB288_45 ++ (mB288_83)))))
def mM288 : mRec := (yX12_risk, cX12_risk, 5, (some .int), [], [], mC288)
-- LaneEyesModel.image()V
set_option maxRecDepth 20000 in
def mB289_0 : mCodeT := [(0, .aload_n 0, []), (1, .iconst 0, []), (2, .putfield 141, [10, 0]), (5, .aload_n 0, []), (6, .iconst 1, []), (7, .putfield 364, [10, 79]), (10, .aload_n 0, []), (11, .aload_n 0, []), (12, .getfield 355, [10, 63]), (15, .putfield 511, [10, 80]), (18, .aload_n 0, []), (19, .aload_n 0, []), (20, .getfield 358, [10, 74]), (23, .putfield 514, [10, 81]), (26, .aload_n 0, []), (27, .aload_n 0, []), (28, .getfield 361, [10, 75]), (31, .putfield 517, [10, 82]), (34, .aload_n 0, []), (35, .aload_n 0, []), (36, .getfield 90, [10, 60]), (39, .aload_n 0, []), (40, .getfield 129, [10, 83]), (43, .invokevirtual 351, [0, 180, 2, 10]), (46, .aload_n 0, []), (47, .aload_n 0, []), (48, .getfield 96, [10, 62]), (51, .aload_n 0, []), (52, .getfield 132, [10, 84]), (55, .invokevirtual 351, [0, 180, 2, 10]), (58, .aload_n 0, []), (59, .aload_n 0, []), (60, .getfield 123, [10, 76]), (63, .aload_n 0, []), (64, .getfield 135, [10, 85]), (67, .invokevirtual 351, [0, 180, 2, 10]), (70, .aload_n 0, []), (71, .aload_n 0, []), (72, .getfield 126, [10, 77]), (75, .aload_n 0, []), (76, .getfield 138, [10, 86]), (79, .invokevirtual 351, [0, 180, 2, 10]), (82, .return_, [])]
set_option maxRecDepth 20000 in
def mC289 : mCodeT := mB289_0
def mM289 : mRec := (yX12_image, cX12_image, 1, none, [], [], mC289)
-- LaneEyesModel.restore()Z
set_option maxRecDepth 20000 in
def mB290_0 : mCodeT := [(0, .aload_n 0, []), (1, .iconst 0, []), (2, .putfield 141, [10, 0]), (5, .aload_n 0, []), (6, .getfield 364, [10, 79]), (9, .ifCond .ne 5, []), (12, .iconst 0, []), (13, .ireturn, [])]
set_option maxRecDepth 20000 in
def mB290_14 : mCodeT := [(14, .aload_n 0, []), (15, .aload_n 0, []), (16, .getfield 511, [10, 80]), (19, .putfield 355, [10, 63]), (22, .aload_n 0, []), (23, .aload_n 0, []), (24, .getfield 514, [10, 81]), (27, .putfield 358, [10, 74]), (30, .aload_n 0, []), (31, .aload_n 0, []), (32, .getfield 517, [10, 82]), (35, .putfield 361, [10, 75]), (38, .aload_n 0, []), (39, .aload_n 0, []), (40, .getfield 129, [10, 83]), (43, .aload_n 0, []), (44, .getfield 90, [10, 60]), (47, .invokevirtual 351, [0, 180, 2, 10]), (50, .aload_n 0, []), (51, .aload_n 0, []), (52, .getfield 132, [10, 84]), (55, .aload_n 0, []), (56, .getfield 96, [10, 62]), (59, .invokevirtual 351, [0, 180, 2, 10]), (62, .aload_n 0, []), (63, .aload_n 0, []), (64, .getfield 135, [10, 85]), (67, .aload_n 0, []), (68, .getfield 123, [10, 76]), (71, .invokevirtual 351, [0, 180, 2, 10]), (74, .aload_n 0, []), (75, .aload_n 0, []), (76, .getfield 138, [10, 86]), (79, .aload_n 0, []), (80, .getfield 126, [10, 77]), (83, .invokevirtual 351, [0, 180, 2, 10]), (86, .iconst 1, []), (87, .ireturn, [])]
set_option maxRecDepth 20000 in
def mC290 : mCodeT := mB290_0 ++ (mB290_14)
def mM290 : mRec := (yX12_restore, cX12_restore, 1, (some .boolean), [], [], mC290)
-- java/lang/Enum.ordinal()I
set_option maxRecDepth 20000 in
def mB291_0 : mCodeT := [(0, .aload_n 0, []), (1, .getfield 7, [900, 0]), (4, .ireturn, [])]
set_option maxRecDepth 20000 in
def mC291 : mCodeT := mB291_0
def mM291 : mRec := (yJx29ce0_ordinal_8abf5, cJx29ce0_ordinal_8abf5, 1, (some .int), [], [], mC291)
-- java/lang/Integer.bitCount(I)I
set_option maxRecDepth 20000 in
def mB292_0 : mCodeT := [(0, .iload_n 0, []), (1, .iload_n 0, []), (2, .iconst 1, []), (3, .iushr, []), (4, .ldc_w 265, [1431655765]), (7, .iand, []), (8, .isub, []), (9, .istore_n 0, []), (10, .iload_n 0, []), (11, .ldc_w 266, [858993459]), (14, .iand, []), (15, .iload_n 0, []), (16, .iconst 2, []), (17, .iushr, []), (18, .ldc_w 266, [858993459]), (21, .iand, []), (22, .iadd, []), (23, .istore_n 0, []), (24, .iload_n 0, []), (25, .iload_n 0, []), (26, .iconst 4, []), (27, .iushr, []), (28, .iadd, []), (29, .ldc_w 267, [252645135]), (32, .iand, []), (33, .istore_n 0, []), (34, .iload_n 0, []), (35, .iload_n 0, []), (36, .bipush 8, []), (38, .iushr, []), (39, .iadd, []), (40, .istore_n 0, []), (41, .iload_n 0, []), (42, .iload_n 0, []), (43, .bipush 16, []), (45, .iushr, []), (46, .iadd, []), (47, .istore_n 0, []), (48, .iload_n 0, []), (49, .bipush 63, []), (51, .iand, []), (52, .ireturn, [])]
set_option maxRecDepth 20000 in
def mC292 : mCodeT := mB292_0
def mM292 : mRec := (yJ6_bitCount_0f7a4, cJ6_bitCount_0f7a4, 1, (some .int), [], [], mC292)
-- java/lang/Long.bitCount(J)I
set_option maxRecDepth 20000 in
def mB293_0 : mCodeT := [(0, .lload_n 0, []), (1, .lload_n 0, []), (2, .iconst 1, []), (3, .lushr, []), (4, .ldc2_w 314, [6148914691236517205]), (7, .land, []), (8, .lsub, []), (9, .lstore_n 0, []), (10, .lload_n 0, []), (11, .ldc2_w 316, [3689348814741910323]), (14, .land, []), (15, .lload_n 0, []), (16, .iconst 2, []), (17, .lushr, []), (18, .ldc2_w 316, [3689348814741910323]), (21, .land, []), (22, .ladd, []), (23, .lstore_n 0, []), (24, .lload_n 0, []), (25, .lload_n 0, []), (26, .iconst 4, []), (27, .lushr, []), (28, .ladd, []), (29, .ldc2_w 318, [1085102592571150095]), (32, .land, []), (33, .lstore_n 0, []), (34, .lload_n 0, []), (35, .lload_n 0, []), (36, .bipush 8, []), (38, .lushr, []), (39, .ladd, []), (40, .lstore_n 0, []), (41, .lload_n 0, []), (42, .lload_n 0, []), (43, .bipush 16, []), (45, .lushr, []), (46, .ladd, []), (47, .lstore_n 0, []), (48, .lload_n 0, []), (49, .lload_n 0, []), (50, .bipush 32, []), (52, .lushr, []), (53, .ladd, []), (54, .lstore_n 0, []), (55, .lload_n 0, []), (56, .l2i, []), (57, .bipush 127, []), (59, .iand, []), (60, .ireturn, [])]
set_option maxRecDepth 20000 in
def mC293 : mCodeT := mB293_0
def mM293 : mRec := (yJ13_bitCount_95d88, cJ13_bitCount_95d88, 2, (some .int), [], [], mC293)
-- java/lang/String.length()I
set_option maxRecDepth 20000 in
def mB294_0 : mCodeT := [(0, .aload_n 0, []), (1, .getfield 9, [900, 4]), (4, .arraylength, []), (5, .aload_n 0, []), (6, .invokevirtual 335, [5, 296, 0, 1]), (9, .ishr, []), (10, .ireturn, [])]
set_option maxRecDepth 20000 in
def mC294 : mCodeT := mB294_0
def mM294 : mRec := (yJ0_length_8abf5, cJ0_length_8abf5, 1, (some .int), [], [], mC294)
-- java/lang/String.charAt(I)C
set_option maxRecDepth 20000 in
def mB295_0 : mCodeT := [(0, .aload_n 0, []), (1, .invokevirtual 492, [5, 297, 0, 1]), (4, .ifCond .eq 12, []), (7, .aload_n 0, []), (8, .getfield 9, [900, 4]), (11, .iload_n 1, []), (12, .invokestatic 495, [1, 299, 2]), (15, .ireturn, [])]
set_option maxRecDepth 20000 in
def mB295_16 : mCodeT := [(16, .aload_n 0, []), (17, .getfield 9, [900, 4]), (20, .iload_n 1, []), (21, .invokestatic 498, [1, 99999, 2]), (24, .ireturn, [])]
set_option maxRecDepth 20000 in
def mC295 : mCodeT := mB295_0 ++ (mB295_16)
def mM295 : mRec := (yJ0_charAt_5068e, cJ0_charAt_5068e, 2, (some .char), [], [], mC295)
-- java/lang/String.coder()B
set_option maxRecDepth 20000 in
def mB296_0 : mCodeT := [(0, .getstatic 38, [8]), (3, .ifCond .eq 10, []), (6, .aload_n 0, []), (7, .getfield 15, [900, 5]), (10, .goto 4, [])]
set_option maxRecDepth 20000 in
def mB296_13 : mCodeT := [(13, .iconst 1, [])]
set_option maxRecDepth 20000 in
def mB296_14 : mCodeT := [(14, .ireturn, [])]
set_option maxRecDepth 20000 in
def mC296 : mCodeT := mB296_0 ++ (mB296_13 ++ (mB296_14))
def mM296 : mRec := (yJ0_coder_7d493, cJ0_coder_7d493, 1, (some .byte), [], [], mC296)
-- java/lang/String.isLatin1()Z
set_option maxRecDepth 20000 in
def mB297_0 : mCodeT := [(0, .getstatic 38, [8]), (3, .ifCond .eq 14, []), (6, .aload_n 0, []), (7, .getfield 15, [900, 5]), (10, .ifCond .ne 7, []), (13, .iconst 1, []), (14, .goto 4, [])]
set_option maxRecDepth 20000 in
def mB297_17 : mCodeT := [(17, .iconst 0, [])]
set_option maxRecDepth 20000 in
def mB297_18 : mCodeT := [(18, .ireturn, [])]
set_option maxRecDepth 20000 in
def mC297 : mCodeT := mB297_0 ++ (mB297_17 ++ (mB297_18))
def mM297 : mRec := (yJ0_isLatin1_aae02, cJ0_isLatin1_aae02, 1, (some .boolean), [], [], mC297)
-- java/lang/String.checkIndex(II)V
set_option maxRecDepth 20000 in
def mB298_0 : mCodeT := [(0, .iload_n 0, []), (1, .iload_n 1, []), (2, .getstatic 1053, [9]), (5, .invokestatic 1059, [1, 301, 3]), (8, .pop, []), (9, .return_, [])]
set_option maxRecDepth 20000 in
def mC298 : mCodeT := mB298_0
def mM298 : mRec := (yJ0_checkIndex_df160, cJ0_checkIndex_df160, 2, none, [], [], mC298)
-- java/lang/StringLatin1.charAt([BI)C
set_option maxRecDepth 20000 in
def mB299_0 : mCodeT := [(0, .iload_n 1, []), (1, .aload_n 0, []), (2, .arraylength, []), (3, .invokestatic 9, [1, 298, 2]), (6, .aload_n 0, []), (7, .iload_n 1, []), (8, .baload, []), (9, .sipush 255, []), (12, .iand, []), (13, .i2c, []), (14, .ireturn, [])]
set_option maxRecDepth 20000 in
def mC299 : mCodeT := mB299_0
def mM299 : mRec := (yJ1_charAt_3b067, cJ1_charAt_3b067, 2, (some .char), [], [], mC299)
-- java/util/Arrays.fill([II)V
set_option maxRecDepth 20000 in
def mB300_0 : mCodeT := [(0, .iconst 0, []), (1, .istore_n 2, []), (2, .aload_n 0, []), (3, .arraylength, []), (4, .istore_n 3, [])]
set_option maxRecDepth 20000 in
def mB300_5 : mCodeT := [(5, .iload_n 2, []), (6, .iload_n 3, []), (7, .if_icmp .ge 13, []), (10, .aload_n 0, []), (11, .iload_n 2, []), (12, .iload_n 1, []), (13, .iastore, []), (14, .iinc 2 1, []), (17, .goto (-12), [])]
set_option maxRecDepth 20000 in
def mB300_20 : mCodeT := [(20, .return_, [])]
set_option maxRecDepth 20000 in
def mC300 : mCodeT := mB300_0 ++ (mB300_5 ++ (mB300_20))
def mM300 : mRec := (yJ7_fill_53178, cJ7_fill_53178, 4, none, [], [], mC300)
-- jdk/internal/util/Preconditions.checkIndex(IILjava/util/function/BiFunction;)I
set_option maxRecDepth 20000 in
def mB301_0 : mCodeT := [(0, .iload_n 0, []), (1, .ifCond .lt 8, []), (4, .iload_n 0, []), (5, .iload_n 1, []), (6, .if_icmp .lt 10, [])]
set_option maxRecDepth 20000 in
def mB301_9 : mCodeT := [(9, .aload_n 2, []), (10, .iload_n 0, []), (11, .iload_n 1, [])]
set_option maxRecDepth 20000 in
def mB301_16 : mCodeT := [(16, .iload_n 0, []), (17, .ireturn, [])]
set_option maxRecDepth 20000 in
def mC301 : mCodeT := mB301_0 ++ (mB301_9 ++ (mB301_16))
def mM301 : mRec := (yJ3_checkIndex_8e157, cJ3_checkIndex_8e157, 3, (some .int), [], [], mC301)
-- LaneEyesLaw.lanes(LLaneEyes;I[J)I
set_option maxRecDepth 20000 in
def mB302_0 : mCodeT := [(0, .aload_n 2, []), (1, .iconst 0, []), (2, .aload_n 0, []), (3, .iload_n 1, []), (4, .invokevirtual 7, [0, 127, 1, 9]), (7, .i2l, []), (8, .lastore, []), (9, .goto 6, [])]
set_option maxRecDepth 20000 in
def mB302_12 : mCodeT := [(12, .astore_n 3, [])]
set_option maxRecDepth 20000 in
def mB302_13 : mCodeT := [(13, .iconst 1, []), (14, .ireturn, [])]
set_option maxRecDepth 20000 in
def mB302_15 : mCodeT := [(15, .iconst 0, []), (16, .ireturn, [])]
set_option maxRecDepth 20000 in
def mC302 : mCodeT := mB302_0 ++ (mB302_12 ++ (mB302_13 ++ (mB302_15)))
def mM302 : mRec := (yL_lanes, cL_lanes, 4, (some .int), [(0, 9, 12, 13)], [mIAE], mC302)
-- LaneEyesLaw.count(LLaneEyes;I[J)I
set_option maxRecDepth 20000 in
def mB303_0 : mCodeT := [(0, .aload_n 2, []), (1, .iconst 0, []), (2, .aload_n 0, []), (3, .iload_n 1, []), (4, .invokevirtual 15, [0, 129, 1, 9]), (7, .i2l, []), (8, .lastore, []), (9, .goto 6, [])]
set_option maxRecDepth 20000 in
def mB303_12 : mCodeT := [(12, .astore_n 3, [])]
set_option maxRecDepth 20000 in
def mB303_13 : mCodeT := [(13, .iconst 1, []), (14, .ireturn, [])]
set_option maxRecDepth 20000 in
def mB303_15 : mCodeT := [(15, .iconst 0, []), (16, .ireturn, [])]
set_option maxRecDepth 20000 in
def mC303 : mCodeT := mB303_0 ++ (mB303_12 ++ (mB303_13 ++ (mB303_15)))
def mM303 : mRec := (yL_count, cL_count, 4, (some .int), [(0, 9, 12, 18)], [mNSE], mC303)
-- LaneEyesLaw.cell(LLaneEyes;II[J)I
set_option maxRecDepth 20000 in
def mB304_0 : mCodeT := [(0, .aload_n 3, []), (1, .iconst 0, []), (2, .aload_n 0, []), (3, .iload_n 1, []), (4, .iload_n 2, []), (5, .invokevirtual 20, [0, 130, 2, 9]), (8, .i2l, []), (9, .lastore, []), (10, .goto 7, [])]
set_option maxRecDepth 20000 in
def mB304_13 : mCodeT := [(13, .astore 4, [])]
set_option maxRecDepth 20000 in
def mB304_15 : mCodeT := [(15, .iconst 1, []), (16, .ireturn, [])]
set_option maxRecDepth 20000 in
def mB304_17 : mCodeT := [(17, .iconst 0, []), (18, .ireturn, [])]
set_option maxRecDepth 20000 in
def mC304 : mCodeT := mB304_0 ++ (mB304_13 ++ (mB304_15 ++ (mB304_17)))
def mM304 : mRec := (yL_cell, cL_cell, 5, (some .int), [(0, 10, 13, 18)], [mNSE], mC304)
-- LaneEyesLaw.look(LLaneEyes;II[J)I
set_option maxRecDepth 20000 in
def mB305_0 : mCodeT := [(0, .aload_n 3, []), (1, .iconst 0, []), (2, .aload_n 0, []), (3, .iload_n 1, []), (4, .iload_n 2, []), (5, .invokevirtual 24, [0, 131, 2, 9]), (8, .i2l, []), (9, .lastore, []), (10, .goto 7, [])]
set_option maxRecDepth 20000 in
def mB305_13 : mCodeT := [(13, .astore 4, [])]
set_option maxRecDepth 20000 in
def mB305_15 : mCodeT := [(15, .iconst 1, []), (16, .ireturn, [])]
set_option maxRecDepth 20000 in
def mB305_17 : mCodeT := [(17, .iconst 0, []), (18, .ireturn, [])]
set_option maxRecDepth 20000 in
def mC305 : mCodeT := mB305_0 ++ (mB305_13 ++ (mB305_15 ++ (mB305_17)))
def mM305 : mRec := (yL_look, cL_look, 5, (some .int), [(0, 10, 13, 18)], [mNSE], mC305)
-- LaneEyesLaw.swimmer(LLaneEyes;II[J)I
set_option maxRecDepth 20000 in
def mB306_0 : mCodeT := [(0, .aload_n 3, []), (1, .iconst 0, []), (2, .aload_n 0, []), (3, .iload_n 1, []), (4, .iload_n 2, []), (5, .invokevirtual 27, [0, 132, 2, 9]), (8, .i2l, []), (9, .lastore, []), (10, .goto 7, [])]
set_option maxRecDepth 20000 in
def mB306_13 : mCodeT := [(13, .astore 4, [])]
set_option maxRecDepth 20000 in
def mB306_15 : mCodeT := [(15, .iconst 1, []), (16, .ireturn, [])]
set_option maxRecDepth 20000 in
def mB306_17 : mCodeT := [(17, .iconst 0, []), (18, .ireturn, [])]
set_option maxRecDepth 20000 in
def mC306 : mCodeT := mB306_0 ++ (mB306_13 ++ (mB306_15 ++ (mB306_17)))
def mM306 : mRec := (yL_swimmer, cL_swimmer, 5, (some .int), [(0, 10, 13, 18)], [mNSE], mC306)
-- LaneEyesLaw.delay(LLaneEyes;II[J)I
set_option maxRecDepth 20000 in
def mB307_0 : mCodeT := [(0, .aload_n 3, []), (1, .iconst 0, []), (2, .aload_n 0, []), (3, .iload_n 1, []), (4, .iload_n 2, []), (5, .invokevirtual 30, [0, 133, 2, 9]), (8, .i2l, []), (9, .lastore, []), (10, .goto 7, [])]
set_option maxRecDepth 20000 in
def mB307_13 : mCodeT := [(13, .astore 4, [])]
set_option maxRecDepth 20000 in
def mB307_15 : mCodeT := [(15, .iconst 1, []), (16, .ireturn, [])]
set_option maxRecDepth 20000 in
def mB307_17 : mCodeT := [(17, .iconst 0, []), (18, .ireturn, [])]
set_option maxRecDepth 20000 in
def mC307 : mCodeT := mB307_0 ++ (mB307_13 ++ (mB307_15 ++ (mB307_17)))
def mM307 : mRec := (yL_delay, cL_delay, 5, (some .int), [(0, 10, 13, 18)], [mNSE], mC307)
-- LaneEyesLaw.worst(LLaneEyes;I[J)I
set_option maxRecDepth 20000 in
def mB308_0 : mCodeT := [(0, .aload_n 2, []), (1, .iconst 0, []), (2, .aload_n 0, []), (3, .iload_n 1, []), (4, .invokevirtual 33, [0, 134, 1, 9]), (7, .i2l, []), (8, .lastore, []), (9, .goto 6, [])]
set_option maxRecDepth 20000 in
def mB308_12 : mCodeT := [(12, .astore_n 3, [])]
set_option maxRecDepth 20000 in
def mB308_13 : mCodeT := [(13, .iconst 1, []), (14, .ireturn, [])]
set_option maxRecDepth 20000 in
def mB308_15 : mCodeT := [(15, .iconst 0, []), (16, .ireturn, [])]
set_option maxRecDepth 20000 in
def mC308 : mCodeT := mB308_0 ++ (mB308_12 ++ (mB308_13 ++ (mB308_15)))
def mM308 : mRec := (yL_worst, cL_worst, 4, (some .int), [(0, 9, 12, 18)], [mNSE], mC308)
-- LaneEyesLaw.swim(LLaneEyes;II[J)I
set_option maxRecDepth 20000 in
def mB309_0 : mCodeT := [(0, .aload_n 3, []), (1, .iconst 0, []), (2, .aload_n 0, []), (3, .iload_n 1, []), (4, .iload_n 2, []), (5, .invokevirtual 36, [0, 135, 2, 9]), (8, .i2l, []), (9, .lastore, []), (10, .goto 7, [])]
set_option maxRecDepth 20000 in
def mB309_13 : mCodeT := [(13, .astore 4, [])]
set_option maxRecDepth 20000 in
def mB309_15 : mCodeT := [(15, .iconst 1, []), (16, .ireturn, [])]
set_option maxRecDepth 20000 in
def mB309_17 : mCodeT := [(17, .iconst 0, []), (18, .ireturn, [])]
set_option maxRecDepth 20000 in
def mC309 : mCodeT := mB309_0 ++ (mB309_13 ++ (mB309_15 ++ (mB309_17)))
def mM309 : mRec := (yL_swim, cL_swim, 5, (some .int), [(0, 10, 13, 18)], [mNSE], mC309)
-- LaneEyesLaw.lasts(LLaneEyes;II[J)I
set_option maxRecDepth 20000 in
def mB310_0 : mCodeT := [(0, .aload_n 3, []), (1, .iconst 0, []), (2, .aload_n 0, []), (3, .iload_n 1, []), (4, .iload_n 2, []), (5, .invokevirtual 39, [0, 137, 2, 9]), (8, .i2l, []), (9, .lastore, []), (10, .goto 7, [])]
set_option maxRecDepth 20000 in
def mB310_13 : mCodeT := [(13, .astore 4, [])]
set_option maxRecDepth 20000 in
def mB310_15 : mCodeT := [(15, .iconst 1, []), (16, .ireturn, [])]
set_option maxRecDepth 20000 in
def mB310_17 : mCodeT := [(17, .iconst 0, []), (18, .ireturn, [])]
set_option maxRecDepth 20000 in
def mC310 : mCodeT := mB310_0 ++ (mB310_13 ++ (mB310_15 ++ (mB310_17)))
def mM310 : mRec := (yL_lasts, cL_lasts, 5, (some .int), [(0, 10, 13, 18)], [mNSE], mC310)
-- LaneEyesLaw.row(LLaneEyes;I[J)I
set_option maxRecDepth 20000 in
def mB311_0 : mCodeT := [(0, .aload_n 2, []), (1, .iconst 0, []), (2, .aload_n 0, []), (3, .iload_n 1, []), (4, .invokevirtual 42, [0, 143, 1, 9]), (7, .i2l, []), (8, .lastore, []), (9, .goto 6, [])]
set_option maxRecDepth 20000 in
def mB311_12 : mCodeT := [(12, .astore_n 3, [])]
set_option maxRecDepth 20000 in
def mB311_13 : mCodeT := [(13, .iconst 1, []), (14, .ireturn, [])]
set_option maxRecDepth 20000 in
def mB311_15 : mCodeT := [(15, .iconst 0, []), (16, .ireturn, [])]
set_option maxRecDepth 20000 in
def mC311 : mCodeT := mB311_0 ++ (mB311_12 ++ (mB311_13 ++ (mB311_15)))
def mM311 : mRec := (yL_row, cL_row, 4, (some .int), [(0, 9, 12, 18)], [mNSE], mC311)
-- LaneEyesLaw.best(LLaneEyes;I[J)I
set_option maxRecDepth 20000 in
def mB312_0 : mCodeT := [(0, .aload_n 2, []), (1, .iconst 0, []), (2, .aload_n 0, []), (3, .iload_n 1, []), (4, .invokevirtual 45, [0, 144, 1, 9]), (7, .i2l, []), (8, .lastore, []), (9, .goto 6, [])]
set_option maxRecDepth 20000 in
def mB312_12 : mCodeT := [(12, .astore_n 3, [])]
set_option maxRecDepth 20000 in
def mB312_13 : mCodeT := [(13, .iconst 1, []), (14, .ireturn, [])]
set_option maxRecDepth 20000 in
def mB312_15 : mCodeT := [(15, .iconst 0, []), (16, .ireturn, [])]
set_option maxRecDepth 20000 in
def mC312 : mCodeT := mB312_0 ++ (mB312_12 ++ (mB312_13 ++ (mB312_15)))
def mM312 : mRec := (yL_best, cL_best, 4, (some .int), [(0, 9, 12, 18)], [mNSE], mC312)
-- LaneEyesLaw.away(LLaneEyes;I[J)I
set_option maxRecDepth 20000 in
def mB313_0 : mCodeT := [(0, .aload_n 2, []), (1, .iconst 0, []), (2, .aload_n 0, []), (3, .iload_n 1, []), (4, .invokevirtual 48, [0, 145, 1, 9]), (7, .i2l, []), (8, .lastore, []), (9, .goto 6, [])]
set_option maxRecDepth 20000 in
def mB313_12 : mCodeT := [(12, .astore_n 3, [])]
set_option maxRecDepth 20000 in
def mB313_13 : mCodeT := [(13, .iconst 1, []), (14, .ireturn, [])]
set_option maxRecDepth 20000 in
def mB313_15 : mCodeT := [(15, .iconst 0, []), (16, .ireturn, [])]
set_option maxRecDepth 20000 in
def mC313 : mCodeT := mB313_0 ++ (mB313_12 ++ (mB313_13 ++ (mB313_15)))
def mM313 : mRec := (yL_away, cL_away, 4, (some .int), [(0, 9, 12, 18)], [mNSE], mC313)
-- LaneEyesLaw.halves(LLaneEyes;I[J)I
set_option maxRecDepth 20000 in
def mB314_0 : mCodeT := [(0, .aload_n 2, []), (1, .iconst 0, []), (2, .aload_n 0, []), (3, .iload_n 1, []), (4, .invokevirtual 51, [0, 148, 1, 9]), (7, .i2l, []), (8, .lastore, []), (9, .goto 6, [])]
set_option maxRecDepth 20000 in
def mB314_12 : mCodeT := [(12, .astore_n 3, [])]
set_option maxRecDepth 20000 in
def mB314_13 : mCodeT := [(13, .iconst 1, []), (14, .ireturn, [])]
set_option maxRecDepth 20000 in
def mB314_15 : mCodeT := [(15, .iconst 0, []), (16, .ireturn, [])]
set_option maxRecDepth 20000 in
def mC314 : mCodeT := mB314_0 ++ (mB314_12 ++ (mB314_13 ++ (mB314_15)))
def mM314 : mRec := (yL_halves, cL_halves, 4, (some .int), [(0, 9, 12, 13)], [mIAE], mC314)
-- LaneEyesLaw.two(LLaneEyes;I[J)I
set_option maxRecDepth 20000 in
def mB315_0 : mCodeT := [(0, .aload_n 2, []), (1, .iconst 0, []), (2, .aload_n 0, []), (3, .iload_n 1, []), (4, .invokevirtual 54, [0, 149, 1, 9]), (7, .i2l, []), (8, .lastore, []), (9, .goto 6, [])]
set_option maxRecDepth 20000 in
def mB315_12 : mCodeT := [(12, .astore_n 3, [])]
set_option maxRecDepth 20000 in
def mB315_13 : mCodeT := [(13, .iconst 1, []), (14, .ireturn, [])]
set_option maxRecDepth 20000 in
def mB315_15 : mCodeT := [(15, .iconst 0, []), (16, .ireturn, [])]
set_option maxRecDepth 20000 in
def mC315 : mCodeT := mB315_0 ++ (mB315_12 ++ (mB315_13 ++ (mB315_15)))
def mM315 : mRec := (yL_two, cL_two, 4, (some .int), [(0, 9, 12, 18)], [mNSE], mC315)
-- LaneEyesLaw.game(LLaneEyes;II[J)I
set_option maxRecDepth 20000 in
def mB316_0 : mCodeT := [(0, .aload_n 3, []), (1, .iconst 0, []), (2, .aload_n 0, []), (3, .iload_n 1, []), (4, .iload_n 2, []), (5, .invokevirtual 57, [0, 150, 2, 9]), (8, .i2l, []), (9, .lastore, []), (10, .goto 7, [])]
set_option maxRecDepth 20000 in
def mB316_13 : mCodeT := [(13, .astore 4, [])]
set_option maxRecDepth 20000 in
def mB316_15 : mCodeT := [(15, .iconst 1, []), (16, .ireturn, [])]
set_option maxRecDepth 20000 in
def mB316_17 : mCodeT := [(17, .iconst 0, []), (18, .ireturn, [])]
set_option maxRecDepth 20000 in
def mC316 : mCodeT := mB316_0 ++ (mB316_13 ++ (mB316_15 ++ (mB316_17)))
def mM316 : mRec := (yL_game, cL_game, 5, (some .int), [(0, 10, 13, 18)], [mNSE], mC316)
-- LaneEyesLaw.jump(LLaneEyes;II[J)I
set_option maxRecDepth 20000 in
def mB317_0 : mCodeT := [(0, .aload_n 3, []), (1, .iconst 0, []), (2, .aload_n 0, []), (3, .iload_n 1, []), (4, .iload_n 2, []), (5, .invokevirtual 60, [0, 152, 2, 9]), (8, .i2l, []), (9, .lastore, []), (10, .goto 7, [])]
set_option maxRecDepth 20000 in
def mB317_13 : mCodeT := [(13, .astore 4, [])]
set_option maxRecDepth 20000 in
def mB317_15 : mCodeT := [(15, .iconst 1, []), (16, .ireturn, [])]
set_option maxRecDepth 20000 in
def mB317_17 : mCodeT := [(17, .iconst 0, []), (18, .ireturn, [])]
set_option maxRecDepth 20000 in
def mC317 : mCodeT := mB317_0 ++ (mB317_13 ++ (mB317_15 ++ (mB317_17)))
def mM317 : mRec := (yL_jump, cL_jump, 5, (some .int), [(0, 10, 13, 13)], [mIAE], mC317)
-- LaneEyesLaw.dummies(LLaneEyes;I[J)I
set_option maxRecDepth 20000 in
def mB318_0 : mCodeT := [(0, .aload_n 2, []), (1, .iconst 0, []), (2, .aload_n 0, []), (3, .iload_n 1, []), (4, .invokevirtual 63, [0, 154, 1, 9]), (7, .i2l, []), (8, .lastore, []), (9, .goto 6, [])]
set_option maxRecDepth 20000 in
def mB318_12 : mCodeT := [(12, .astore_n 3, [])]
set_option maxRecDepth 20000 in
def mB318_13 : mCodeT := [(13, .iconst 1, []), (14, .ireturn, [])]
set_option maxRecDepth 20000 in
def mB318_15 : mCodeT := [(15, .iconst 0, []), (16, .ireturn, [])]
set_option maxRecDepth 20000 in
def mC318 : mCodeT := mB318_0 ++ (mB318_12 ++ (mB318_13 ++ (mB318_15)))
def mM318 : mRec := (yL_dummies, cL_dummies, 4, (some .int), [(0, 9, 12, 18)], [mNSE], mC318)
-- LaneEyesLaw.more(LLaneEyes;I[J)I
set_option maxRecDepth 20000 in
def mB319_0 : mCodeT := [(0, .aload_n 2, []), (1, .iconst 0, []), (2, .aload_n 0, []), (3, .iload_n 1, []), (4, .invokevirtual 66, [0, 155, 1, 9]), (7, .i2l, []), (8, .lastore, []), (9, .goto 6, [])]
set_option maxRecDepth 20000 in
def mB319_12 : mCodeT := [(12, .astore_n 3, [])]
set_option maxRecDepth 20000 in
def mB319_13 : mCodeT := [(13, .iconst 1, []), (14, .ireturn, [])]
set_option maxRecDepth 20000 in
def mB319_15 : mCodeT := [(15, .iconst 0, []), (16, .ireturn, [])]
set_option maxRecDepth 20000 in
def mC319 : mCodeT := mB319_0 ++ (mB319_12 ++ (mB319_13 ++ (mB319_15)))
def mM319 : mRec := (yL_more, cL_more, 4, (some .int), [(0, 9, 12, 13)], [mIAE], mC319)
-- LaneEyesLaw.missing(LLaneEyes;I[J)I
set_option maxRecDepth 20000 in
def mB320_0 : mCodeT := [(0, .aload_n 2, []), (1, .iconst 0, []), (2, .aload_n 0, []), (3, .iload_n 1, []), (4, .invokevirtual 69, [0, 158, 1, 9]), (7, .i2l, []), (8, .lastore, []), (9, .goto 6, [])]
set_option maxRecDepth 20000 in
def mB320_12 : mCodeT := [(12, .astore_n 3, [])]
set_option maxRecDepth 20000 in
def mB320_13 : mCodeT := [(13, .iconst 1, []), (14, .ireturn, [])]
set_option maxRecDepth 20000 in
def mB320_15 : mCodeT := [(15, .iconst 0, []), (16, .ireturn, [])]
set_option maxRecDepth 20000 in
def mC320 : mCodeT := mB320_0 ++ (mB320_12 ++ (mB320_13 ++ (mB320_15)))
def mM320 : mRec := (yL_missing, cL_missing, 4, (some .int), [(0, 9, 12, 18)], [mNSE], mC320)
-- LaneEyesLaw.week(LLaneEyes;III[J)I
set_option maxRecDepth 20000 in
def mB321_0 : mCodeT := [(0, .aload 4, []), (2, .iconst 0, []), (3, .aload_n 0, []), (4, .iload_n 1, []), (5, .iload_n 2, []), (6, .iload_n 3, []), (7, .invokevirtual 72, [0, 159, 3, 9]), (10, .i2l, []), (11, .lastore, []), (12, .goto 11, [])]
set_option maxRecDepth 20000 in
def mB321_15 : mCodeT := [(15, .astore 5, [])]
set_option maxRecDepth 20000 in
def mB321_17 : mCodeT := [(17, .iconst 1, []), (18, .ireturn, [])]
set_option maxRecDepth 20000 in
def mB321_19 : mCodeT := [(19, .astore 5, [])]
set_option maxRecDepth 20000 in
def mB321_21 : mCodeT := [(21, .iconst 2, []), (22, .ireturn, [])]
set_option maxRecDepth 20000 in
def mB321_23 : mCodeT := [(23, .iconst 0, []), (24, .ireturn, [])]
set_option maxRecDepth 20000 in
def mC321 : mCodeT := mB321_0 ++ (mB321_15 ++ (mB321_17 ++ (mB321_19 ++ (mB321_21 ++ (mB321_23)))))
def mM321 : mRec := (yL_week, cL_week, 6, (some .int), [(0, 12, 15, 18), (0, 12, 19, 13)], [mNSE, mIAE], mC321)
-- LaneEyesLaw.without(LLaneEyes;I[J)I
set_option maxRecDepth 20000 in
def mB322_0 : mCodeT := [(0, .aload_n 2, []), (1, .iconst 0, []), (2, .aload_n 0, []), (3, .iload_n 1, []), (4, .invokevirtual 76, [0, 161, 1, 9]), (7, .i2l, []), (8, .lastore, []), (9, .goto 6, [])]
set_option maxRecDepth 20000 in
def mB322_12 : mCodeT := [(12, .astore_n 3, [])]
set_option maxRecDepth 20000 in
def mB322_13 : mCodeT := [(13, .iconst 1, []), (14, .ireturn, [])]
set_option maxRecDepth 20000 in
def mB322_15 : mCodeT := [(15, .iconst 0, []), (16, .ireturn, [])]
set_option maxRecDepth 20000 in
def mC322 : mCodeT := mB322_0 ++ (mB322_12 ++ (mB322_13 ++ (mB322_15)))
def mM322 : mRec := (yL_without, cL_without, 4, (some .int), [(0, 9, 12, 18)], [mNSE], mC322)
-- LaneEyesLaw.risk(LLaneEyes;I[J)I
set_option maxRecDepth 20000 in
def mB323_0 : mCodeT := [(0, .aload_n 2, []), (1, .iconst 0, []), (2, .aload_n 0, []), (3, .iload_n 1, []), (4, .invokevirtual 79, [0, 162, 1, 9]), (7, .i2l, []), (8, .lastore, []), (9, .goto 6, [])]
set_option maxRecDepth 20000 in
def mB323_12 : mCodeT := [(12, .astore_n 3, [])]
set_option maxRecDepth 20000 in
def mB323_13 : mCodeT := [(13, .iconst 1, []), (14, .ireturn, [])]
set_option maxRecDepth 20000 in
def mB323_15 : mCodeT := [(15, .iconst 0, []), (16, .ireturn, [])]
set_option maxRecDepth 20000 in
def mC323 : mCodeT := mB323_0 ++ (mB323_12 ++ (mB323_13 ++ (mB323_15)))
def mM323 : mRec := (yL_risk, cL_risk, 4, (some .int), [(0, 9, 12, 18)], [mNSE], mC323)
-- LaneEyesLaw.law([I)Z
set_option maxRecDepth 20000 in
def mB324_0 : mCodeT := [(0, .new 8, [9, 16]), (3, .dup, []), (4, .invokespecial 82, [3, 124, 0]), (7, .astore_n 1, []), (8, .new 83, [10, 87]), (11, .dup, []), (12, .invokespecial 85, [3, 175, 0]), (15, .astore_n 2, []), (16, .iconst 1, []), (17, .newarray .long, [103]), (19, .astore_n 3, []), (20, .iconst 0, []), (21, .istore 4, [])]
set_option maxRecDepth 20000 in
def mB324_23 : mCodeT := [(23, .iload 4, []), (25, .aload_n 0, []), (26, .arraylength, []), (27, .bipush 6, []), (29, .isub, []), (30, .if_icmp .gt 1902, []), (33, .aload_n 0, []), (34, .iload 4, []), (36, .iaload, []), (37, .bipush 63, []), (39, .iand, []), (40, .tableswitch 1886 0 38 #[172, 245, 301, 314, 370, 438, 506, 574, 642, 698, 766, 791, 859, 896, 921, 934, 947, 960, 1016, 1072, 1128, 1141, 1154, 1210, 1266, 1334, 1347, 1415, 1440, 1496, 1552, 1589, 1600, 1656, 1736, 1750, 1806, 1862, 1873], [])]
set_option maxRecDepth 20000 in
def mB324_212 : mCodeT := [(212, .aload_n 1, []), (213, .aload_n 0, []), (214, .iload 4, []), (216, .iconst 1, []), (217, .iadd, []), (218, .iaload, []), (219, .aload_n 0, []), (220, .iload 4, []), (222, .iconst 2, []), (223, .iadd, []), (224, .iaload, []), (225, .aload_n 0, []), (226, .iload 4, []), (228, .iconst 3, []), (229, .iadd, []), (230, .iaload, []), (231, .aload_n 0, []), (232, .iload 4, []), (234, .iconst 4, []), (235, .iadd, []), (236, .iaload, []), (237, .aload_n 0, []), (238, .iload 4, []), (240, .iconst 5, []), (241, .iadd, []), (242, .iaload, []), (243, .invokevirtual 86, [0, 125, 5, 9]), (246, .aload_n 2, []), (247, .aload_n 0, []), (248, .iload 4, []), (250, .iconst 1, []), (251, .iadd, []), (252, .iaload, []), (253, .aload_n 0, []), (254, .iload 4, []), (256, .iconst 2, []), (257, .iadd, []), (258, .iaload, []), (259, .aload_n 0, []), (260, .iload 4, []), (262, .iconst 3, []), (263, .iadd, []), (264, .iaload, []), (265, .aload_n 0, []), (266, .iload 4, []), (268, .iconst 4, []), (269, .iadd, []), (270, .iaload, []), (271, .aload_n 0, []), (272, .iload 4, []), (274, .iconst 5, []), (275, .iadd, []), (276, .iaload, []), (277, .invokevirtual 90, [0, 182, 5, 10]), (280, .if_icmp .eq 1646, []), (283, .iconst 0, []), (284, .ireturn, [])]
set_option maxRecDepth 20000 in
def mB324_285 : mCodeT := [(285, .aload_n 1, []), (286, .aload_n 0, []), (287, .iload 4, []), (289, .iconst 1, []), (290, .iadd, []), (291, .iaload, []), (292, .aload_n 3, []), (293, .invokestatic 91, [1, 302, 3]), (296, .istore 5, []), (298, .aload_n 2, []), (299, .aload_n 0, []), (300, .iload 4, []), (302, .iconst 1, []), (303, .iadd, []), (304, .iaload, []), (305, .invokevirtual 96, [0, 213, 1, 10]), (308, .istore 6, []), (310, .aload_n 2, []), (311, .invokevirtual 97, [0, 176, 0, 10]), (314, .iload 5, []), (316, .if_icmp .eq 5, []), (319, .iconst 0, []), (320, .ireturn, [])]
set_option maxRecDepth 20000 in
def mB324_321 : mCodeT := [(321, .iload 5, []), (323, .ifCond .ne 15, []), (326, .aload_n 3, []), (327, .iconst 0, []), (328, .laload, []), (329, .iload 6, []), (331, .i2l, []), (332, .lcmp, []), (333, .ifCond .eq 5, []), (336, .iconst 0, []), (337, .ireturn, [])]
set_option maxRecDepth 20000 in
def mB324_338 : mCodeT := [(338, .goto 1588, [])]
set_option maxRecDepth 20000 in
def mB324_341 : mCodeT := [(341, .aload_n 1, []), (342, .invokevirtual 101, [0, 128, 0, 9]), (345, .aload_n 2, []), (346, .invokevirtual 104, [0, 214, 0, 10]), (349, .if_icmp .eq 1577, []), (352, .iconst 0, []), (353, .ireturn, [])]
set_option maxRecDepth 20000 in
def mB324_354 : mCodeT := [(354, .aload_n 1, []), (355, .aload_n 0, []), (356, .iload 4, []), (358, .iconst 1, []), (359, .iadd, []), (360, .iaload, []), (361, .aload_n 3, []), (362, .invokestatic 105, [1, 303, 3]), (365, .istore 5, []), (367, .aload_n 2, []), (368, .aload_n 0, []), (369, .iload 4, []), (371, .iconst 1, []), (372, .iadd, []), (373, .iaload, []), (374, .invokevirtual 107, [0, 237, 1, 10]), (377, .istore 6, []), (379, .aload_n 2, []), (380, .invokevirtual 97, [0, 176, 0, 10]), (383, .iload 5, []), (385, .if_icmp .eq 5, []), (388, .iconst 0, []), (389, .ireturn, [])]
set_option maxRecDepth 20000 in
def mB324_390 : mCodeT := [(390, .iload 5, []), (392, .ifCond .ne 15, []), (395, .aload_n 3, []), (396, .iconst 0, []), (397, .laload, []), (398, .iload 6, []), (400, .i2l, []), (401, .lcmp, []), (402, .ifCond .eq 5, []), (405, .iconst 0, []), (406, .ireturn, [])]
set_option maxRecDepth 20000 in
def mB324_407 : mCodeT := [(407, .goto 1519, [])]
set_option maxRecDepth 20000 in
def mB324_410 : mCodeT := [(410, .aload_n 1, []), (411, .aload_n 0, []), (412, .iload 4, []), (414, .iconst 1, []), (415, .iadd, []), (416, .iaload, []), (417, .aload_n 0, []), (418, .iload 4, []), (420, .iconst 2, []), (421, .iadd, []), (422, .iaload, []), (423, .aload_n 3, []), (424, .invokestatic 108, [1, 304, 4]), (427, .istore 5, []), (429, .aload_n 2, []), (430, .aload_n 0, []), (431, .iload 4, []), (433, .iconst 1, []), (434, .iadd, []), (435, .iaload, []), (436, .aload_n 0, []), (437, .iload 4, []), (439, .iconst 2, []), (440, .iadd, []), (441, .iaload, []), (442, .invokevirtual 111, [0, 243, 2, 10]), (445, .istore 6, []), (447, .aload_n 2, []), (448, .invokevirtual 97, [0, 176, 0, 10]), (451, .iload 5, []), (453, .if_icmp .eq 5, []), (456, .iconst 0, []), (457, .ireturn, [])]
set_option maxRecDepth 20000 in
def mB324_458 : mCodeT := [(458, .iload 5, []), (460, .ifCond .ne 15, []), (463, .aload_n 3, []), (464, .iconst 0, []), (465, .laload, []), (466, .iload 6, []), (468, .i2l, []), (469, .lcmp, []), (470, .ifCond .eq 5, []), (473, .iconst 0, []), (474, .ireturn, [])]
set_option maxRecDepth 20000 in
def mB324_475 : mCodeT := [(475, .goto 1451, [])]
set_option maxRecDepth 20000 in
def mB324_478 : mCodeT := [(478, .aload_n 1, []), (479, .aload_n 0, []), (480, .iload 4, []), (482, .iconst 1, []), (483, .iadd, []), (484, .iaload, []), (485, .aload_n 0, []), (486, .iload 4, []), (488, .iconst 2, []), (489, .iadd, []), (490, .iaload, []), (491, .aload_n 3, []), (492, .invokestatic 112, [1, 305, 4]), (495, .istore 5, []), (497, .aload_n 2, []), (498, .aload_n 0, []), (499, .iload 4, []), (501, .iconst 1, []), (502, .iadd, []), (503, .iaload, []), (504, .aload_n 0, []), (505, .iload 4, []), (507, .iconst 2, []), (508, .iadd, []), (509, .iaload, []), (510, .invokevirtual 114, [0, 244, 2, 10]), (513, .istore 6, []), (515, .aload_n 2, []), (516, .invokevirtual 97, [0, 176, 0, 10]), (519, .iload 5, []), (521, .if_icmp .eq 5, []), (524, .iconst 0, []), (525, .ireturn, [])]
set_option maxRecDepth 20000 in
def mB324_526 : mCodeT := [(526, .iload 5, []), (528, .ifCond .ne 15, []), (531, .aload_n 3, []), (532, .iconst 0, []), (533, .laload, []), (534, .iload 6, []), (536, .i2l, []), (537, .lcmp, []), (538, .ifCond .eq 5, []), (541, .iconst 0, []), (542, .ireturn, [])]
set_option maxRecDepth 20000 in
def mB324_543 : mCodeT := [(543, .goto 1383, [])]
set_option maxRecDepth 20000 in
def mB324_546 : mCodeT := [(546, .aload_n 1, []), (547, .aload_n 0, []), (548, .iload 4, []), (550, .iconst 1, []), (551, .iadd, []), (552, .iaload, []), (553, .aload_n 0, []), (554, .iload 4, []), (556, .iconst 2, []), (557, .iadd, []), (558, .iaload, []), (559, .aload_n 3, []), (560, .invokestatic 115, [1, 306, 4]), (563, .istore 5, []), (565, .aload_n 2, []), (566, .aload_n 0, []), (567, .iload 4, []), (569, .iconst 1, []), (570, .iadd, []), (571, .iaload, []), (572, .aload_n 0, []), (573, .iload 4, []), (575, .iconst 2, []), (576, .iadd, []), (577, .iaload, []), (578, .invokevirtual 117, [0, 245, 2, 10]), (581, .istore 6, []), (583, .aload_n 2, []), (584, .invokevirtual 97, [0, 176, 0, 10]), (587, .iload 5, []), (589, .if_icmp .eq 5, []), (592, .iconst 0, []), (593, .ireturn, [])]
set_option maxRecDepth 20000 in
def mB324_594 : mCodeT := [(594, .iload 5, []), (596, .ifCond .ne 15, []), (599, .aload_n 3, []), (600, .iconst 0, []), (601, .laload, []), (602, .iload 6, []), (604, .i2l, []), (605, .lcmp, []), (606, .ifCond .eq 5, []), (609, .iconst 0, []), (610, .ireturn, [])]
set_option maxRecDepth 20000 in
def mB324_611 : mCodeT := [(611, .goto 1315, [])]
set_option maxRecDepth 20000 in
def mB324_614 : mCodeT := [(614, .aload_n 1, []), (615, .aload_n 0, []), (616, .iload 4, []), (618, .iconst 1, []), (619, .iadd, []), (620, .iaload, []), (621, .aload_n 0, []), (622, .iload 4, []), (624, .iconst 2, []), (625, .iadd, []), (626, .iaload, []), (627, .aload_n 3, []), (628, .invokestatic 118, [1, 307, 4]), (631, .istore 5, []), (633, .aload_n 2, []), (634, .aload_n 0, []), (635, .iload 4, []), (637, .iconst 1, []), (638, .iadd, []), (639, .iaload, []), (640, .aload_n 0, []), (641, .iload 4, []), (643, .iconst 2, []), (644, .iadd, []), (645, .iaload, []), (646, .invokevirtual 120, [0, 246, 2, 10]), (649, .istore 6, []), (651, .aload_n 2, []), (652, .invokevirtual 97, [0, 176, 0, 10]), (655, .iload 5, []), (657, .if_icmp .eq 5, []), (660, .iconst 0, []), (661, .ireturn, [])]
set_option maxRecDepth 20000 in
def mB324_662 : mCodeT := [(662, .iload 5, []), (664, .ifCond .ne 15, []), (667, .aload_n 3, []), (668, .iconst 0, []), (669, .laload, []), (670, .iload 6, []), (672, .i2l, []), (673, .lcmp, []), (674, .ifCond .eq 5, []), (677, .iconst 0, []), (678, .ireturn, [])]
set_option maxRecDepth 20000 in
def mB324_679 : mCodeT := [(679, .goto 1247, [])]
set_option maxRecDepth 20000 in
def mB324_682 : mCodeT := [(682, .aload_n 1, []), (683, .aload_n 0, []), (684, .iload 4, []), (686, .iconst 1, []), (687, .iadd, []), (688, .iaload, []), (689, .aload_n 3, []), (690, .invokestatic 121, [1, 308, 3]), (693, .istore 5, []), (695, .aload_n 2, []), (696, .aload_n 0, []), (697, .iload 4, []), (699, .iconst 1, []), (700, .iadd, []), (701, .iaload, []), (702, .invokevirtual 123, [0, 247, 1, 10]), (705, .istore 6, []), (707, .aload_n 2, []), (708, .invokevirtual 97, [0, 176, 0, 10]), (711, .iload 5, []), (713, .if_icmp .eq 5, []), (716, .iconst 0, []), (717, .ireturn, [])]
set_option maxRecDepth 20000 in
def mB324_718 : mCodeT := [(718, .iload 5, []), (720, .ifCond .ne 15, []), (723, .aload_n 3, []), (724, .iconst 0, []), (725, .laload, []), (726, .iload 6, []), (728, .i2l, []), (729, .lcmp, []), (730, .ifCond .eq 5, []), (733, .iconst 0, []), (734, .ireturn, [])]
set_option maxRecDepth 20000 in
def mB324_735 : mCodeT := [(735, .goto 1191, [])]
set_option maxRecDepth 20000 in
def mB324_738 : mCodeT := [(738, .aload_n 1, []), (739, .aload_n 0, []), (740, .iload 4, []), (742, .iconst 1, []), (743, .iadd, []), (744, .iaload, []), (745, .aload_n 0, []), (746, .iload 4, []), (748, .iconst 2, []), (749, .iadd, []), (750, .iaload, []), (751, .aload_n 3, []), (752, .invokestatic 124, [1, 309, 4]), (755, .istore 5, []), (757, .aload_n 2, []), (758, .aload_n 0, []), (759, .iload 4, []), (761, .iconst 1, []), (762, .iadd, []), (763, .iaload, []), (764, .aload_n 0, []), (765, .iload 4, []), (767, .iconst 2, []), (768, .iadd, []), (769, .iaload, []), (770, .invokevirtual 126, [0, 248, 2, 10]), (773, .istore 6, []), (775, .aload_n 2, []), (776, .invokevirtual 97, [0, 176, 0, 10]), (779, .iload 5, []), (781, .if_icmp .eq 5, []), (784, .iconst 0, []), (785, .ireturn, [])]
set_option maxRecDepth 20000 in
def mB324_786 : mCodeT := [(786, .iload 5, []), (788, .ifCond .ne 15, []), (791, .aload_n 3, []), (792, .iconst 0, []), (793, .laload, []), (794, .iload 6, []), (796, .i2l, []), (797, .lcmp, []), (798, .ifCond .eq 5, []), (801, .iconst 0, []), (802, .ireturn, [])]
set_option maxRecDepth 20000 in
def mB324_803 : mCodeT := [(803, .goto 1123, [])]
set_option maxRecDepth 20000 in
def mB324_806 : mCodeT := [(806, .aload_n 1, []), (807, .aload_n 0, []), (808, .iload 4, []), (810, .iconst 1, []), (811, .iadd, []), (812, .iaload, []), (813, .invokevirtual 127, [0, 136, 1, 9]), (816, .aload_n 2, []), (817, .aload_n 0, []), (818, .iload 4, []), (820, .iconst 1, []), (821, .iadd, []), (822, .iaload, []), (823, .invokevirtual 130, [0, 250, 1, 10]), (826, .if_icmp .eq 1100, []), (829, .iconst 0, []), (830, .ireturn, [])]
set_option maxRecDepth 20000 in
def mB324_831 : mCodeT := [(831, .aload_n 1, []), (832, .aload_n 0, []), (833, .iload 4, []), (835, .iconst 1, []), (836, .iadd, []), (837, .iaload, []), (838, .aload_n 0, []), (839, .iload 4, []), (841, .iconst 2, []), (842, .iadd, []), (843, .iaload, []), (844, .aload_n 3, []), (845, .invokestatic 131, [1, 310, 4]), (848, .istore 5, []), (850, .aload_n 2, []), (851, .aload_n 0, []), (852, .iload 4, []), (854, .iconst 1, []), (855, .iadd, []), (856, .iaload, []), (857, .aload_n 0, []), (858, .iload 4, []), (860, .iconst 2, []), (861, .iadd, []), (862, .iaload, []), (863, .invokevirtual 133, [0, 251, 2, 10]), (866, .istore 6, []), (868, .aload_n 2, []), (869, .invokevirtual 97, [0, 176, 0, 10]), (872, .iload 5, []), (874, .if_icmp .eq 5, []), (877, .iconst 0, []), (878, .ireturn, [])]
set_option maxRecDepth 20000 in
def mB324_879 : mCodeT := [(879, .iload 5, []), (881, .ifCond .ne 15, []), (884, .aload_n 3, []), (885, .iconst 0, []), (886, .laload, []), (887, .iload 6, []), (889, .i2l, []), (890, .lcmp, []), (891, .ifCond .eq 5, []), (894, .iconst 0, []), (895, .ireturn, [])]
set_option maxRecDepth 20000 in
def mB324_896 : mCodeT := [(896, .goto 1030, [])]
set_option maxRecDepth 20000 in
def mB324_899 : mCodeT := [(899, .aload_n 1, []), (900, .aload_n 0, []), (901, .iload 4, []), (903, .iconst 1, []), (904, .iadd, []), (905, .iaload, []), (906, .aload_n 0, []), (907, .iload 4, []), (909, .iconst 2, []), (910, .iadd, []), (911, .iaload, []), (912, .invokevirtual 134, [0, 138, 2, 9]), (915, .aload_n 2, []), (916, .aload_n 0, []), (917, .iload 4, []), (919, .iconst 1, []), (920, .iadd, []), (921, .iaload, []), (922, .aload_n 0, []), (923, .iload 4, []), (925, .iconst 2, []), (926, .iadd, []), (927, .iaload, []), (928, .invokevirtual 138, [0, 253, 2, 10]), (931, .if_icmp .eq 995, []), (934, .iconst 0, []), (935, .ireturn, [])]
set_option maxRecDepth 20000 in
def mB324_936 : mCodeT := [(936, .aload_n 1, []), (937, .aload_n 0, []), (938, .iload 4, []), (940, .iconst 1, []), (941, .iadd, []), (942, .iaload, []), (943, .invokevirtual 139, [0, 139, 1, 9]), (946, .aload_n 2, []), (947, .aload_n 0, []), (948, .iload 4, []), (950, .iconst 1, []), (951, .iadd, []), (952, .iaload, []), (953, .invokevirtual 142, [0, 254, 1, 10]), (956, .if_icmp .eq 970, []), (959, .iconst 0, []), (960, .ireturn, [])]
set_option maxRecDepth 20000 in
def mB324_961 : mCodeT := [(961, .aload_n 1, []), (962, .invokevirtual 143, [0, 140, 0, 9]), (965, .aload_n 2, []), (966, .invokevirtual 146, [0, 217, 0, 10]), (969, .if_icmp .eq 957, []), (972, .iconst 0, []), (973, .ireturn, [])]
set_option maxRecDepth 20000 in
def mB324_974 : mCodeT := [(974, .aload_n 1, []), (975, .invokevirtual 147, [0, 141, 0, 9]), (978, .aload_n 2, []), (979, .invokevirtual 150, [0, 258, 0, 10]), (982, .if_icmp .eq 944, []), (985, .iconst 0, []), (986, .ireturn, [])]
set_option maxRecDepth 20000 in
def mB324_987 : mCodeT := [(987, .aload_n 1, []), (988, .invokevirtual 151, [0, 142, 0, 9]), (991, .aload_n 2, []), (992, .invokevirtual 154, [0, 259, 0, 10]), (995, .if_icmp .eq 931, []), (998, .iconst 0, []), (999, .ireturn, [])]
set_option maxRecDepth 20000 in
def mB324_1000 : mCodeT := [(1000, .aload_n 1, []), (1001, .aload_n 0, []), (1002, .iload 4, []), (1004, .iconst 1, []), (1005, .iadd, []), (1006, .iaload, []), (1007, .aload_n 3, []), (1008, .invokestatic 155, [1, 311, 3]), (1011, .istore 5, []), (1013, .aload_n 2, []), (1014, .aload_n 0, []), (1015, .iload 4, []), (1017, .iconst 1, []), (1018, .iadd, []), (1019, .iaload, []), (1020, .invokevirtual 157, [0, 260, 1, 10]), (1023, .istore 6, []), (1025, .aload_n 2, []), (1026, .invokevirtual 97, [0, 176, 0, 10]), (1029, .iload 5, []), (1031, .if_icmp .eq 5, []), (1034, .iconst 0, []), (1035, .ireturn, [])]
set_option maxRecDepth 20000 in
def mB324_1036 : mCodeT := [(1036, .iload 5, []), (1038, .ifCond .ne 15, []), (1041, .aload_n 3, []), (1042, .iconst 0, []), (1043, .laload, []), (1044, .iload 6, []), (1046, .i2l, []), (1047, .lcmp, []), (1048, .ifCond .eq 5, []), (1051, .iconst 0, []), (1052, .ireturn, [])]
set_option maxRecDepth 20000 in
def mB324_1053 : mCodeT := [(1053, .goto 873, [])]
set_option maxRecDepth 20000 in
def mB324_1056 : mCodeT := [(1056, .aload_n 1, []), (1057, .aload_n 0, []), (1058, .iload 4, []), (1060, .iconst 1, []), (1061, .iadd, []), (1062, .iaload, []), (1063, .aload_n 3, []), (1064, .invokestatic 158, [1, 312, 3]), (1067, .istore 5, []), (1069, .aload_n 2, []), (1070, .aload_n 0, []), (1071, .iload 4, []), (1073, .iconst 1, []), (1074, .iadd, []), (1075, .iaload, []), (1076, .invokevirtual 160, [0, 261, 1, 10]), (1079, .istore 6, []), (1081, .aload_n 2, []), (1082, .invokevirtual 97, [0, 176, 0, 10]), (1085, .iload 5, []), (1087, .if_icmp .eq 5, []), (1090, .iconst 0, []), (1091, .ireturn, [])]
set_option maxRecDepth 20000 in
def mB324_1092 : mCodeT := [(1092, .iload 5, []), (1094, .ifCond .ne 15, []), (1097, .aload_n 3, []), (1098, .iconst 0, []), (1099, .laload, []), (1100, .iload 6, []), (1102, .i2l, []), (1103, .lcmp, []), (1104, .ifCond .eq 5, []), (1107, .iconst 0, []), (1108, .ireturn, [])]
set_option maxRecDepth 20000 in
def mB324_1109 : mCodeT := [(1109, .goto 817, [])]
set_option maxRecDepth 20000 in
def mB324_1112 : mCodeT := [(1112, .aload_n 1, []), (1113, .aload_n 0, []), (1114, .iload 4, []), (1116, .iconst 1, []), (1117, .iadd, []), (1118, .iaload, []), (1119, .aload_n 3, []), (1120, .invokestatic 161, [1, 313, 3]), (1123, .istore 5, []), (1125, .aload_n 2, []), (1126, .aload_n 0, []), (1127, .iload 4, []), (1129, .iconst 1, []), (1130, .iadd, []), (1131, .iaload, []), (1132, .invokevirtual 163, [0, 262, 1, 10]), (1135, .istore 6, []), (1137, .aload_n 2, []), (1138, .invokevirtual 97, [0, 176, 0, 10]), (1141, .iload 5, []), (1143, .if_icmp .eq 5, []), (1146, .iconst 0, []), (1147, .ireturn, [])]
set_option maxRecDepth 20000 in
def mB324_1148 : mCodeT := [(1148, .iload 5, []), (1150, .ifCond .ne 15, []), (1153, .aload_n 3, []), (1154, .iconst 0, []), (1155, .laload, []), (1156, .iload 6, []), (1158, .i2l, []), (1159, .lcmp, []), (1160, .ifCond .eq 5, []), (1163, .iconst 0, []), (1164, .ireturn, [])]
set_option maxRecDepth 20000 in
def mB324_1165 : mCodeT := [(1165, .goto 761, [])]
set_option maxRecDepth 20000 in
def mB324_1168 : mCodeT := [(1168, .aload_n 1, []), (1169, .invokevirtual 164, [0, 146, 0, 9]), (1172, .aload_n 2, []), (1173, .invokevirtual 167, [0, 263, 0, 10]), (1176, .if_icmp .eq 750, []), (1179, .iconst 0, []), (1180, .ireturn, [])]
set_option maxRecDepth 20000 in
def mB324_1181 : mCodeT := [(1181, .aload_n 1, []), (1182, .invokevirtual 168, [0, 147, 0, 9]), (1185, .aload_n 2, []), (1186, .invokevirtual 171, [0, 264, 0, 10]), (1189, .if_icmp .eq 737, []), (1192, .iconst 0, []), (1193, .ireturn, [])]
set_option maxRecDepth 20000 in
def mB324_1194 : mCodeT := [(1194, .aload_n 1, []), (1195, .aload_n 0, []), (1196, .iload 4, []), (1198, .iconst 1, []), (1199, .iadd, []), (1200, .iaload, []), (1201, .aload_n 3, []), (1202, .invokestatic 172, [1, 314, 3]), (1205, .istore 5, []), (1207, .aload_n 2, []), (1208, .aload_n 0, []), (1209, .iload 4, []), (1211, .iconst 1, []), (1212, .iadd, []), (1213, .iaload, []), (1214, .invokevirtual 174, [0, 266, 1, 10]), (1217, .istore 6, []), (1219, .aload_n 2, []), (1220, .invokevirtual 97, [0, 176, 0, 10]), (1223, .iload 5, []), (1225, .if_icmp .eq 5, []), (1228, .iconst 0, []), (1229, .ireturn, [])]
set_option maxRecDepth 20000 in
def mB324_1230 : mCodeT := [(1230, .iload 5, []), (1232, .ifCond .ne 15, []), (1235, .aload_n 3, []), (1236, .iconst 0, []), (1237, .laload, []), (1238, .iload 6, []), (1240, .i2l, []), (1241, .lcmp, []), (1242, .ifCond .eq 5, []), (1245, .iconst 0, []), (1246, .ireturn, [])]
set_option maxRecDepth 20000 in
def mB324_1247 : mCodeT := [(1247, .goto 679, [])]
set_option maxRecDepth 20000 in
def mB324_1250 : mCodeT := [(1250, .aload_n 1, []), (1251, .aload_n 0, []), (1252, .iload 4, []), (1254, .iconst 1, []), (1255, .iadd, []), (1256, .iaload, []), (1257, .aload_n 3, []), (1258, .invokestatic 175, [1, 315, 3]), (1261, .istore 5, []), (1263, .aload_n 2, []), (1264, .aload_n 0, []), (1265, .iload 4, []), (1267, .iconst 1, []), (1268, .iadd, []), (1269, .iaload, []), (1270, .invokevirtual 177, [0, 268, 1, 10]), (1273, .istore 6, []), (1275, .aload_n 2, []), (1276, .invokevirtual 97, [0, 176, 0, 10]), (1279, .iload 5, []), (1281, .if_icmp .eq 5, []), (1284, .iconst 0, []), (1285, .ireturn, [])]
set_option maxRecDepth 20000 in
def mB324_1286 : mCodeT := [(1286, .iload 5, []), (1288, .ifCond .ne 15, []), (1291, .aload_n 3, []), (1292, .iconst 0, []), (1293, .laload, []), (1294, .iload 6, []), (1296, .i2l, []), (1297, .lcmp, []), (1298, .ifCond .eq 5, []), (1301, .iconst 0, []), (1302, .ireturn, [])]
set_option maxRecDepth 20000 in
def mB324_1303 : mCodeT := [(1303, .goto 623, [])]
set_option maxRecDepth 20000 in
def mB324_1306 : mCodeT := [(1306, .aload_n 1, []), (1307, .aload_n 0, []), (1308, .iload 4, []), (1310, .iconst 1, []), (1311, .iadd, []), (1312, .iaload, []), (1313, .aload_n 0, []), (1314, .iload 4, []), (1316, .iconst 2, []), (1317, .iadd, []), (1318, .iaload, []), (1319, .aload_n 3, []), (1320, .invokestatic 178, [1, 316, 4]), (1323, .istore 5, []), (1325, .aload_n 2, []), (1326, .aload_n 0, []), (1327, .iload 4, []), (1329, .iconst 1, []), (1330, .iadd, []), (1331, .iaload, []), (1332, .aload_n 0, []), (1333, .iload 4, []), (1335, .iconst 2, []), (1336, .iadd, []), (1337, .iaload, []), (1338, .invokevirtual 180, [0, 271, 2, 10]), (1341, .istore 6, []), (1343, .aload_n 2, []), (1344, .invokevirtual 97, [0, 176, 0, 10]), (1347, .iload 5, []), (1349, .if_icmp .eq 5, []), (1352, .iconst 0, []), (1353, .ireturn, [])]
set_option maxRecDepth 20000 in
def mB324_1354 : mCodeT := [(1354, .iload 5, []), (1356, .ifCond .ne 15, []), (1359, .aload_n 3, []), (1360, .iconst 0, []), (1361, .laload, []), (1362, .iload 6, []), (1364, .i2l, []), (1365, .lcmp, []), (1366, .ifCond .eq 5, []), (1369, .iconst 0, []), (1370, .ireturn, [])]
set_option maxRecDepth 20000 in
def mB324_1371 : mCodeT := [(1371, .goto 555, [])]
set_option maxRecDepth 20000 in
def mB324_1374 : mCodeT := [(1374, .aload_n 1, []), (1375, .invokevirtual 181, [0, 151, 0, 9]), (1378, .aload_n 2, []), (1379, .invokevirtual 184, [0, 272, 0, 10]), (1382, .if_icmp .eq 544, []), (1385, .iconst 0, []), (1386, .ireturn, [])]
set_option maxRecDepth 20000 in
def mB324_1387 : mCodeT := [(1387, .aload_n 1, []), (1388, .aload_n 0, []), (1389, .iload 4, []), (1391, .iconst 1, []), (1392, .iadd, []), (1393, .iaload, []), (1394, .aload_n 0, []), (1395, .iload 4, []), (1397, .iconst 2, []), (1398, .iadd, []), (1399, .iaload, []), (1400, .aload_n 3, []), (1401, .invokestatic 185, [1, 317, 4]), (1404, .istore 5, []), (1406, .aload_n 2, []), (1407, .aload_n 0, []), (1408, .iload 4, []), (1410, .iconst 1, []), (1411, .iadd, []), (1412, .iaload, []), (1413, .aload_n 0, []), (1414, .iload 4, []), (1416, .iconst 2, []), (1417, .iadd, []), (1418, .iaload, []), (1419, .invokevirtual 187, [0, 273, 2, 10]), (1422, .istore 6, []), (1424, .aload_n 2, []), (1425, .invokevirtual 97, [0, 176, 0, 10]), (1428, .iload 5, []), (1430, .if_icmp .eq 5, []), (1433, .iconst 0, []), (1434, .ireturn, [])]
set_option maxRecDepth 20000 in
def mB324_1435 : mCodeT := [(1435, .iload 5, []), (1437, .ifCond .ne 15, []), (1440, .aload_n 3, []), (1441, .iconst 0, []), (1442, .laload, []), (1443, .iload 6, []), (1445, .i2l, []), (1446, .lcmp, []), (1447, .ifCond .eq 5, []), (1450, .iconst 0, []), (1451, .ireturn, [])]
set_option maxRecDepth 20000 in
def mB324_1452 : mCodeT := [(1452, .goto 474, [])]
set_option maxRecDepth 20000 in
def mB324_1455 : mCodeT := [(1455, .aload_n 1, []), (1456, .aload_n 0, []), (1457, .iload 4, []), (1459, .iconst 1, []), (1460, .iadd, []), (1461, .iaload, []), (1462, .invokevirtual 188, [0, 153, 1, 9]), (1465, .aload_n 2, []), (1466, .aload_n 0, []), (1467, .iload 4, []), (1469, .iconst 1, []), (1470, .iadd, []), (1471, .iaload, []), (1472, .invokevirtual 191, [0, 274, 1, 10]), (1475, .if_icmp .eq 451, []), (1478, .iconst 0, []), (1479, .ireturn, [])]
set_option maxRecDepth 20000 in
def mB324_1480 : mCodeT := [(1480, .aload_n 1, []), (1481, .aload_n 0, []), (1482, .iload 4, []), (1484, .iconst 1, []), (1485, .iadd, []), (1486, .iaload, []), (1487, .aload_n 3, []), (1488, .invokestatic 192, [1, 318, 3]), (1491, .istore 5, []), (1493, .aload_n 2, []), (1494, .aload_n 0, []), (1495, .iload 4, []), (1497, .iconst 1, []), (1498, .iadd, []), (1499, .iaload, []), (1500, .invokevirtual 194, [0, 277, 1, 10]), (1503, .istore 6, []), (1505, .aload_n 2, []), (1506, .invokevirtual 97, [0, 176, 0, 10]), (1509, .iload 5, []), (1511, .if_icmp .eq 5, []), (1514, .iconst 0, []), (1515, .ireturn, [])]
set_option maxRecDepth 20000 in
def mB324_1516 : mCodeT := [(1516, .iload 5, []), (1518, .ifCond .ne 15, []), (1521, .aload_n 3, []), (1522, .iconst 0, []), (1523, .laload, []), (1524, .iload 6, []), (1526, .i2l, []), (1527, .lcmp, []), (1528, .ifCond .eq 5, []), (1531, .iconst 0, []), (1532, .ireturn, [])]
set_option maxRecDepth 20000 in
def mB324_1533 : mCodeT := [(1533, .goto 393, [])]
set_option maxRecDepth 20000 in
def mB324_1536 : mCodeT := [(1536, .aload_n 1, []), (1537, .aload_n 0, []), (1538, .iload 4, []), (1540, .iconst 1, []), (1541, .iadd, []), (1542, .iaload, []), (1543, .aload_n 3, []), (1544, .invokestatic 195, [1, 319, 3]), (1547, .istore 5, []), (1549, .aload_n 2, []), (1550, .aload_n 0, []), (1551, .iload 4, []), (1553, .iconst 1, []), (1554, .iadd, []), (1555, .iaload, []), (1556, .invokevirtual 197, [0, 278, 1, 10]), (1559, .istore 6, []), (1561, .aload_n 2, []), (1562, .invokevirtual 97, [0, 176, 0, 10]), (1565, .iload 5, []), (1567, .if_icmp .eq 5, []), (1570, .iconst 0, []), (1571, .ireturn, [])]
set_option maxRecDepth 20000 in
def mB324_1572 : mCodeT := [(1572, .iload 5, []), (1574, .ifCond .ne 15, []), (1577, .aload_n 3, []), (1578, .iconst 0, []), (1579, .laload, []), (1580, .iload 6, []), (1582, .i2l, []), (1583, .lcmp, []), (1584, .ifCond .eq 5, []), (1587, .iconst 0, []), (1588, .ireturn, [])]
set_option maxRecDepth 20000 in
def mB324_1589 : mCodeT := [(1589, .goto 337, [])]
set_option maxRecDepth 20000 in
def mB324_1592 : mCodeT := [(1592, .aload_n 1, []), (1593, .aload_n 0, []), (1594, .iload 4, []), (1596, .iconst 1, []), (1597, .iadd, []), (1598, .iaload, []), (1599, .aload_n 0, []), (1600, .iload 4, []), (1602, .iconst 2, []), (1603, .iadd, []), (1604, .iaload, []), (1605, .invokevirtual 198, [0, 156, 2, 9]), (1608, .aload_n 2, []), (1609, .aload_n 0, []), (1610, .iload 4, []), (1612, .iconst 1, []), (1613, .iadd, []), (1614, .iaload, []), (1615, .aload_n 0, []), (1616, .iload 4, []), (1618, .iconst 2, []), (1619, .iadd, []), (1620, .iaload, []), (1621, .invokevirtual 201, [0, 279, 2, 10]), (1624, .if_icmp .eq 302, []), (1627, .iconst 0, []), (1628, .ireturn, [])]
set_option maxRecDepth 20000 in
def mB324_1629 : mCodeT := [(1629, .aload_n 1, []), (1630, .invokevirtual 202, [0, 157, 0, 9]), (1633, .aload_n 2, []), (1634, .invokevirtual 205, [0, 280, 0, 10]), (1637, .goto 289, [])]
set_option maxRecDepth 20000 in
def mB324_1640 : mCodeT := [(1640, .aload_n 1, []), (1641, .aload_n 0, []), (1642, .iload 4, []), (1644, .iconst 1, []), (1645, .iadd, []), (1646, .iaload, []), (1647, .aload_n 3, []), (1648, .invokestatic 206, [1, 320, 3]), (1651, .istore 5, []), (1653, .aload_n 2, []), (1654, .aload_n 0, []), (1655, .iload 4, []), (1657, .iconst 1, []), (1658, .iadd, []), (1659, .iaload, []), (1660, .invokevirtual 208, [0, 282, 1, 10]), (1663, .istore 6, []), (1665, .aload_n 2, []), (1666, .invokevirtual 97, [0, 176, 0, 10]), (1669, .iload 5, []), (1671, .if_icmp .eq 5, []), (1674, .iconst 0, []), (1675, .ireturn, [])]
set_option maxRecDepth 20000 in
def mB324_1676 : mCodeT := [(1676, .iload 5, []), (1678, .ifCond .ne 15, []), (1681, .aload_n 3, []), (1682, .iconst 0, []), (1683, .laload, []), (1684, .iload 6, []), (1686, .i2l, []), (1687, .lcmp, []), (1688, .ifCond .eq 5, []), (1691, .iconst 0, []), (1692, .ireturn, [])]
set_option maxRecDepth 20000 in
def mB324_1693 : mCodeT := [(1693, .goto 233, [])]
set_option maxRecDepth 20000 in
def mB324_1696 : mCodeT := [(1696, .aload_n 1, []), (1697, .aload_n 0, []), (1698, .iload 4, []), (1700, .iconst 1, []), (1701, .iadd, []), (1702, .iaload, []), (1703, .aload_n 0, []), (1704, .iload 4, []), (1706, .iconst 2, []), (1707, .iadd, []), (1708, .iaload, []), (1709, .aload_n 0, []), (1710, .iload 4, []), (1712, .iconst 3, []), (1713, .iadd, []), (1714, .iaload, []), (1715, .aload_n 3, []), (1716, .invokestatic 209, [1, 321, 5]), (1719, .istore 5, []), (1721, .aload_n 2, []), (1722, .aload_n 0, []), (1723, .iload 4, []), (1725, .iconst 1, []), (1726, .iadd, []), (1727, .iaload, []), (1728, .aload_n 0, []), (1729, .iload 4, []), (1731, .iconst 2, []), (1732, .iadd, []), (1733, .iaload, []), (1734, .aload_n 0, []), (1735, .iload 4, []), (1737, .iconst 3, []), (1738, .iadd, []), (1739, .iaload, []), (1740, .invokevirtual 212, [0, 285, 3, 10]), (1743, .istore 6, []), (1745, .aload_n 2, []), (1746, .invokevirtual 97, [0, 176, 0, 10]), (1749, .iload 5, []), (1751, .if_icmp .eq 5, []), (1754, .iconst 0, []), (1755, .ireturn, [])]
set_option maxRecDepth 20000 in
def mB324_1756 : mCodeT := [(1756, .iload 5, []), (1758, .ifCond .ne 15, []), (1761, .aload_n 3, []), (1762, .iconst 0, []), (1763, .laload, []), (1764, .iload 6, []), (1766, .i2l, []), (1767, .lcmp, []), (1768, .ifCond .eq 5, []), (1771, .iconst 0, []), (1772, .ireturn, [])]
set_option maxRecDepth 20000 in
def mB324_1773 : mCodeT := [(1773, .goto 153, [])]
set_option maxRecDepth 20000 in
def mB324_1776 : mCodeT := [(1776, .aload_n 1, []), (1777, .invokevirtual 213, [0, 160, 0, 9]), (1780, .aload_n 2, []), (1781, .invokevirtual 217, [0, 286, 0, 10]), (1784, .lcmp, []), (1785, .ifCond .eq 141, []), (1788, .iconst 0, []), (1789, .ireturn, [])]
set_option maxRecDepth 20000 in
def mB324_1790 : mCodeT := [(1790, .aload_n 1, []), (1791, .aload_n 0, []), (1792, .iload 4, []), (1794, .iconst 1, []), (1795, .iadd, []), (1796, .iaload, []), (1797, .aload_n 3, []), (1798, .invokestatic 218, [1, 322, 3]), (1801, .istore 5, []), (1803, .aload_n 2, []), (1804, .aload_n 0, []), (1805, .iload 4, []), (1807, .iconst 1, []), (1808, .iadd, []), (1809, .iaload, []), (1810, .invokevirtual 220, [0, 287, 1, 10]), (1813, .istore 6, []), (1815, .aload_n 2, []), (1816, .invokevirtual 97, [0, 176, 0, 10]), (1819, .iload 5, []), (1821, .if_icmp .eq 5, []), (1824, .iconst 0, []), (1825, .ireturn, [])]
set_option maxRecDepth 20000 in
def mB324_1826 : mCodeT := [(1826, .iload 5, []), (1828, .ifCond .ne 15, []), (1831, .aload_n 3, []), (1832, .iconst 0, []), (1833, .laload, []), (1834, .iload 6, []), (1836, .i2l, []), (1837, .lcmp, []), (1838, .ifCond .eq 5, []), (1841, .iconst 0, []), (1842, .ireturn, [])]
set_option maxRecDepth 20000 in
def mB324_1843 : mCodeT := [(1843, .goto 83, [])]
set_option maxRecDepth 20000 in
def mB324_1846 : mCodeT := [(1846, .aload_n 1, []), (1847, .aload_n 0, []), (1848, .iload 4, []), (1850, .iconst 1, []), (1851, .iadd, []), (1852, .iaload, []), (1853, .aload_n 3, []), (1854, .invokestatic 221, [1, 323, 3]), (1857, .istore 5, []), (1859, .aload_n 2, []), (1860, .aload_n 0, []), (1861, .iload 4, []), (1863, .iconst 1, []), (1864, .iadd, []), (1865, .iaload, []), (1866, .invokevirtual 223, [0, 288, 1, 10]), (1869, .istore 6, []), (1871, .aload_n 2, []), (1872, .invokevirtual 97, [0, 176, 0, 10]), (1875, .iload 5, []), (1877, .if_icmp .eq 5, []), (1880, .iconst 0, []), (1881, .ireturn, [])]
set_option maxRecDepth 20000 in
def mB324_1882 : mCodeT := [(1882, .iload 5, []), (1884, .ifCond .ne 15, []), (1887, .aload_n 3, []), (1888, .iconst 0, []), (1889, .laload, []), (1890, .iload 6, []), (1892, .i2l, []), (1893, .lcmp, []), (1894, .ifCond .eq 5, []), (1897, .iconst 0, []), (1898, .ireturn, [])]
set_option maxRecDepth 20000 in
def mB324_1899 : mCodeT := [(1899, .goto 27, [])]
set_option maxRecDepth 20000 in
def mB324_1902 : mCodeT := [(1902, .aload_n 1, []), (1903, .invokevirtual 224, [0, 163, 0, 9]), (1906, .aload_n 2, []), (1907, .invokevirtual 227, [0, 289, 0, 10]), (1910, .goto 16, [])]
set_option maxRecDepth 20000 in
def mB324_1913 : mCodeT := [(1913, .aload_n 1, []), (1914, .invokevirtual 228, [0, 164, 0, 9]), (1917, .aload_n 2, []), (1918, .invokevirtual 232, [0, 290, 0, 10]), (1921, .if_icmp .eq 5, []), (1924, .iconst 0, []), (1925, .ireturn, [])]
set_option maxRecDepth 20000 in
def mB324_1926 : mCodeT := [(1926, .iinc 4 6, []), (1929, .goto (-1906), [])]
set_option maxRecDepth 20000 in
def mB324_1932 : mCodeT := [(1932, .iconst 1, []), (1933, .ireturn, [])]
set_option maxRecDepth 20000 in
def mC324_0 : mCodeT := mB324_0 ++ (mB324_23)
set_option maxRecDepth 20000 in
def mC324_1 : mCodeT := mB324_212
set_option maxRecDepth 20000 in
def mC324_2 : mCodeT := mB324_285 ++ (mB324_321 ++ (mB324_338 ++ (mB324_341)))
set_option maxRecDepth 20000 in
def mC324_3 : mCodeT := mB324_354 ++ (mB324_390 ++ (mB324_407))
set_option maxRecDepth 20000 in
def mC324_4 : mCodeT := mB324_410 ++ (mB324_458 ++ (mB324_475))
set_option maxRecDepth 20000 in
def mC324_5 : mCodeT := mB324_478 ++ (mB324_526 ++ (mB324_543))
set_option maxRecDepth 20000 in
def mC324_6 : mCodeT := mB324_546 ++ (mB324_594 ++ (mB324_611))
set_option maxRecDepth 20000 in
def mC324_7 : mCodeT := mB324_614 ++ (mB324_662 ++ (mB324_679))
set_option maxRecDepth 20000 in
def mC324_8 : mCodeT := mB324_682 ++ (mB324_718 ++ (mB324_735))
set_option maxRecDepth 20000 in
def mC324_9 : mCodeT := mB324_738 ++ (mB324_786 ++ (mB324_803))
set_option maxRecDepth 20000 in
def mC324_10 : mCodeT := mB324_806 ++ (mB324_831)
set_option maxRecDepth 20000 in
def mC324_11 : mCodeT := mB324_879 ++ (mB324_896 ++ (mB324_899))
set_option maxRecDepth 20000 in
def mC324_12 : mCodeT := mB324_936 ++ (mB324_961 ++ (mB324_974 ++ (mB324_987)))
set_option maxRecDepth 20000 in
def mC324_13 : mCodeT := mB324_1000 ++ (mB324_1036 ++ (mB324_1053))
set_option maxRecDepth 20000 in
def mC324_14 : mCodeT := mB324_1056 ++ (mB324_1092 ++ (mB324_1109))
set_option maxRecDepth 20000 in
def mC324_15 : mCodeT := mB324_1112 ++ (mB324_1148 ++ (mB324_1165 ++ (mB324_1168 ++ (mB324_1181))))
set_option maxRecDepth 20000 in
def mC324_16 : mCodeT := mB324_1194 ++ (mB324_1230 ++ (mB324_1247))
set_option maxRecDepth 20000 in
def mC324_17 : mCodeT := mB324_1250 ++ (mB324_1286 ++ (mB324_1303))
set_option maxRecDepth 20000 in
def mC324_18 : mCodeT := mB324_1306 ++ (mB324_1354 ++ (mB324_1371))
set_option maxRecDepth 20000 in
def mC324_19 : mCodeT := mB324_1374 ++ (mB324_1387)
set_option maxRecDepth 20000 in
def mC324_20 : mCodeT := mB324_1435 ++ (mB324_1452 ++ (mB324_1455))
set_option maxRecDepth 20000 in
def mC324_21 : mCodeT := mB324_1480 ++ (mB324_1516 ++ (mB324_1533))
set_option maxRecDepth 20000 in
def mC324_22 : mCodeT := mB324_1536 ++ (mB324_1572 ++ (mB324_1589))
set_option maxRecDepth 20000 in
def mC324_23 : mCodeT := mB324_1592 ++ (mB324_1629)
set_option maxRecDepth 20000 in
def mC324_24 : mCodeT := mB324_1640 ++ (mB324_1676 ++ (mB324_1693))
set_option maxRecDepth 20000 in
def mC324_25 : mCodeT := mB324_1696
set_option maxRecDepth 20000 in
def mC324_26 : mCodeT := mB324_1756 ++ (mB324_1773 ++ (mB324_1776 ++ (mB324_1790)))
set_option maxRecDepth 20000 in
def mC324_27 : mCodeT := mB324_1826 ++ (mB324_1843 ++ (mB324_1846 ++ (mB324_1882 ++ (mB324_1899))))
set_option maxRecDepth 20000 in
def mC324_28 : mCodeT := mB324_1902 ++ (mB324_1913 ++ (mB324_1926 ++ (mB324_1932)))
set_option maxRecDepth 20000 in
def mC324 : mCodeT := mC324_0 ++ (mC324_1 ++ (mC324_2 ++ (mC324_3 ++ (mC324_4 ++ (mC324_5 ++ (mC324_6 ++ (mC324_7 ++ (mC324_8 ++ (mC324_9 ++ (mC324_10 ++ (mC324_11 ++ (mC324_12 ++ (mC324_13 ++ (mC324_14 ++ (mC324_15 ++ (mC324_16 ++ (mC324_17 ++ (mC324_18 ++ (mC324_19 ++ (mC324_20 ++ (mC324_21 ++ (mC324_22 ++ (mC324_23 ++ (mC324_24 ++ (mC324_25 ++ (mC324_26 ++ (mC324_27 ++ (mC324_28))))))))))))))))))))))))))))
def mM324 : mRec := (yL_law, cL_law, 7, (some .boolean), [], [], mC324)
set_option maxRecDepth 20000 in
def mTabL : List mRec := [mM0, mM1, mM2, mM3, mM4, mM5, mM6, mM7, mM8, mM9, mM10, mM11, mM12, mM13, mM14, mM15, mM16, mM17, mM18, mM19, mM20, mM21, mM22, mM23, mM24, mM25, mM26, mM27, mM28, mM29, mM30, mM31, mM32, mM33, mM34, mM35, mM36, mM37, mM38, mM39, mM40, mM41, mM42, mM43, mM44, mM45, mM46, mM47, mM48, mM49, mM50, mM51, mM52, mM53, mM54, mM55, mM56, mM57, mM58, mM59, mM60, mM61, mM62, mM63, mM64, mM65, mM66, mM67, mM68, mM69, mM70, mM71, mM72, mM73, mM74, mM75, mM76, mM77, mM78, mM79, mM80, mM81, mM82, mM83, mM84, mM85, mM86, mM87, mM88, mM89, mM90, mM91, mM92, mM93, mM94, mM95, mM96, mM97, mM98, mM99, mM100, mM101, mM102, mM103, mM104, mM105, mM106, mM107, mM108, mM109, mM110, mM111, mM112, mM113, mM114, mM115, mM116, mM117, mM118, mM119, mM120, mM121, mM122, mM123, mM124, mM125, mM126, mM127, mM128, mM129, mM130, mM131, mM132, mM133, mM134, mM135, mM136, mM137, mM138, mM139, mM140, mM141, mM142, mM143, mM144, mM145, mM146, mM147, mM148, mM149, mM150, mM151, mM152, mM153, mM154, mM155, mM156, mM157, mM158, mM159, mM160, mM161, mM162, mM163, mM164, mM165, mM166, mM167, mM168, mM169, mM170, mM171, mM172, mM173, mM174, mM175, mM176, mM177, mM178, mM179, mM180, mM181, mM182, mM183, mM184, mM185, mM186, mM187, mM188, mM189, mM190, mM191, mM192, mM193, mM194, mM195, mM196, mM197, mM198, mM199, mM200, mM201, mM202, mM203, mM204, mM205, mM206, mM207, mM208, mM209, mM210, mM211, mM212, mM213, mM214, mM215, mM216, mM217, mM218, mM219, mM220, mM221, mM222, mM223, mM224, mM225, mM226, mM227, mM228, mM229, mM230, mM231, mM232, mM233, mM234, mM235, mM236, mM237, mM238, mM239, mM240, mM241, mM242, mM243, mM244, mM245, mM246, mM247, mM248, mM249, mM250, mM251, mM252, mM253, mM254, mM255, mM256, mM257, mM258, mM259, mM260, mM261, mM262, mM263, mM264, mM265, mM266, mM267, mM268, mM269, mM270, mM271, mM272, mM273, mM274, mM275, mM276, mM277, mM278, mM279, mM280, mM281, mM282, mM283, mM284, mM285, mM286, mM287, mM288, mM289, mM290, mM291, mM292, mM293, mM294, mM295, mM296, mM297, mM298, mM299, mM300, mM301, mM302, mM303, mM304, mM305, mM306, mM307, mM308, mM309, mM310, mM311, mM312, mM313, mM314, mM315, mM316, mM317, mM318, mM319, mM320, mM321, mM322, mM323, mM324]
def mTab (y : Nat) : Option mRec := mTabL[y]?
set_option maxRecDepth 20000 in
def mSelfL : List (Option (Nat × Nat × Nat)) := [some (0, 2, 0), some (0, 0, 0), some (1, 0, 0), some (3, 0, 0), some (0, 0, 0), some (2, 0, 0), some (0, 0, 0), some (0, 0, 0), some (1, 0, 0), some (0, 2, 1), some (2, 0, 1), some (3, 1, 1), some (3, 0, 1), some (2, 1, 1), some (2, 1, 1), some (0, 2, 2), some (2, 0, 2), some (1, 0, 2), some (1, 0, 2), some (2, 0, 2), some (2, 0, 2), some (2, 0, 2), some (1, 0, 2), some (1, 0, 2), some (0, 0, 2), some (0, 0, 2), some (0, 0, 2), some (0, 0, 2), some (0, 0, 2), some (0, 0, 2), some (0, 0, 2), some (0, 0, 2), some (0, 0, 2), some (0, 0, 2), some (2, 0, 2), some (1, 0, 2), some (1, 0, 2), some (1, 0, 2), some (1, 0, 2), some (1, 0, 2), some (1, 0, 2), some (1, 0, 2), some (0, 2, 3), some (0, 0, 3), some (1, 0, 3), some (0, 0, 3), some (1, 0, 3), some (1, 0, 3), some (1, 0, 3), some (1, 0, 3), some (2, 0, 3), some (0, 2, 4), some (0, 0, 4), some (2, 0, 4), some (2, 0, 4), some (1, 0, 4), some (2, 0, 4), some (3, 0, 4), some (0, 0, 4), some (0, 2, 5), some (0, 0, 5), some (1, 0, 5), some (1, 0, 5), some (1, 0, 5), some (1, 0, 5), some (1, 0, 5), some (2, 0, 5), some (3, 1, 5), some (0, 2, 6), some (2, 0, 6), some (0, 0, 6), some (0, 0, 6), some (0, 0, 6), some (1, 0, 6), some (1, 0, 6), some (0, 0, 6), some (1, 1, 6), some (1, 1, 6), some (1, 1, 6), some (0, 2, 7), some (0, 0, 7), some (0, 0, 7), some (1, 0, 7), some (1, 0, 7), some (4, 0, 7), some (1, 0, 7), some (0, 0, 7), some (2, 0, 7), some (2, 0, 7), some (0, 0, 7), some (0, 0, 7), some (1, 0, 7), some (3, 0, 7), some (0, 0, 7), some (0, 0, 7), some (0, 0, 7), some (1, 0, 7), some (1, 0, 7), some (1, 0, 7), some (0, 0, 7), some (2, 0, 7), some (2, 0, 7), some (1, 0, 7), some (0, 0, 7), some (1, 0, 7), some (0, 0, 7), some (0, 0, 7), some (2, 0, 7), some (1, 0, 7), some (2, 0, 7), some (0, 0, 7), some (1, 0, 7), some (0, 0, 7), some (0, 0, 7), some (1, 0, 7), some (2, 0, 7), some (0, 0, 7), some (0, 0, 7), some (0, 2, 8), some (3, 0, 8), some (1, 0, 8), some (2, 0, 8), some (2, 0, 8), some (3, 3, 0), some (0, 2, 9), some (5, 0, 9), some (1, 0, 9), some (1, 0, 9), some (0, 0, 9), some (1, 0, 9), some (2, 0, 9), some (2, 0, 9), some (2, 0, 9), some (2, 0, 9), some (1, 0, 9), some (2, 0, 9), some (1, 0, 9), some (2, 0, 9), some (2, 0, 9), some (1, 0, 9), some (0, 0, 9), some (0, 0, 9), some (0, 0, 9), some (1, 0, 9), some (1, 0, 9), some (1, 0, 9), some (0, 0, 9), some (0, 0, 9), some (1, 0, 9), some (1, 0, 9), some (2, 0, 9), some (0, 0, 9), some (2, 0, 9), some (1, 0, 9), some (1, 0, 9), some (1, 0, 9), some (2, 0, 9), some (0, 0, 9), some (1, 0, 9), some (3, 0, 9), some (0, 0, 9), some (1, 0, 9), some (1, 0, 9), some (0, 0, 9), some (0, 0, 9), some (2, 0, 9), some (1, 0, 9), some (1, 0, 9), some (1, 0, 9), some (1, 0, 9), some (1, 1, 9), some (2, 1, 9), some (2, 1, 9), some (2, 1, 9), some (3, 1, 9), some (0, 2, 10), some (0, 0, 10), some (2, 0, 10), some (3, 1, 10), some (2, 1, 10), some (2, 0, 10), some (1, 1, 10), some (5, 0, 10), some (1, 0, 10), some (1, 0, 10), some (1, 1, 10), some (1, 1, 10), some (0, 0, 10), some (7, 1, 10), some (1, 1, 10), some (0, 0, 10), some (1, 0, 10), some (0, 0, 10), some (1, 0, 10), some (1, 0, 10), some (2, 0, 10), some (2, 0, 10), some (1, 0, 10), some (1, 1, 10), some (1, 1, 10), some (1, 0, 10), some (1, 0, 10), some (0, 0, 10), some (0, 0, 10), some (1, 0, 10), some (0, 0, 10), some (0, 0, 10), some (2, 0, 10), some (1, 0, 10), some (0, 0, 10), some (0, 0, 10), some (0, 0, 10), some (0, 0, 10), some (1, 0, 10), some (0, 0, 10), some (0, 0, 10), some (1, 0, 10), some (0, 0, 10), some (0, 0, 10), some (0, 0, 10), some (3, 1, 10), some (1, 0, 10), some (1, 0, 10), some (1, 0, 10), some (1, 0, 10), some (1, 0, 10), some (1, 0, 10), some (4, 0, 10), some (0, 0, 10), some (2, 0, 10), some (2, 0, 10), some (1, 0, 10), some (3, 0, 10), some (2, 0, 10), some (0, 0, 10), some (1, 1, 10), some (0, 0, 10), some (1, 0, 10), some (1, 0, 10), some (1, 0, 10), some (1, 0, 10), some (2, 0, 10), some (1, 0, 10), some (2, 0, 10), some (2, 0, 10), some (2, 0, 10), some (2, 0, 10), some (1, 0, 10), some (2, 0, 10), some (2, 0, 10), some (1, 0, 10), some (2, 0, 10), some (2, 0, 10), some (2, 0, 10), some (1, 0, 10), some (0, 0, 10), some (0, 0, 10), some (2, 0, 10), some (0, 0, 10), some (0, 0, 10), some (1, 0, 10), some (1, 0, 10), some (1, 0, 10), some (0, 0, 10), some (0, 0, 10), some (1, 0, 10), some (1, 0, 10), some (0, 0, 10), some (1, 0, 10), some (2, 0, 10), some (2, 0, 10), some (2, 0, 10), some (0, 0, 10), some (2, 0, 10), some (1, 0, 10), some (0, 0, 10), some (3, 1, 10), some (1, 0, 10), some (1, 0, 10), some (2, 0, 10), some (0, 0, 10), some (1, 0, 10), some (1, 0, 10), some (1, 0, 10), some (0, 0, 10), some (3, 0, 10), some (0, 0, 10), some (1, 0, 10), some (1, 0, 10), some (0, 0, 10), some (0, 0, 10), some (0, 4, 0), some (1, 1, 0), some (1, 1, 0), some (0, 3, 1), some (1, 3, 1), some (0, 3, 1), some (0, 3, 1), some (2, 1, 0), some (2, 1, 0), some (2, 1, 0), some (3, 1, 0), some (3, 1, 0), some (3, 1, 0), some (4, 1, 0), some (4, 1, 0), some (4, 1, 0), some (4, 1, 0), some (3, 1, 0), some (4, 1, 0), some (4, 1, 0), some (3, 1, 0), some (3, 1, 0), some (3, 1, 0), some (3, 1, 0), some (3, 1, 0), some (4, 1, 0), some (4, 1, 0), some (3, 1, 0), some (3, 1, 0), some (3, 1, 0), some (5, 1, 0), some (3, 1, 0), some (3, 1, 0), none]
def mSelf (y : Nat) : Option (Nat × Nat × Nat) := mSelfL.getD y none
