/-! ===== guard, the reference: its small methods, layFar (printed by wip/p1/zref.py) ===== -/
def t0_19 : List q_I := (19, 1, .ireturn, 0, 0, 0) :: []
def t0_18 : List q_I := (18, 1, .imul, 0, 0, 0) :: t0_19
def t0_17 : List q_I := (17, 1, .iaload, 0, 0, 0) :: t0_18
def t0_14 : List q_I := (14, 3, .getfield 274, 9, 34, 0) :: t0_17
def t0_13 : List q_I := (13, 1, .aload_n 0, 0, 0, 0) :: t0_14
def t0_10 : List q_I := (10, 3, .getfield 24, 9, 12, 2) :: t0_13
def t0_9 : List q_I := (9, 1, .aload_n 0, 0, 0, 0) :: t0_10
def t0_8 : List q_I := (8, 1, .iaload, 0, 0, 0) :: t0_9
def t0_5 : List q_I := (5, 3, .getfield 274, 9, 34, 0) :: t0_8
def t0_4 : List q_I := (4, 1, .aload_n 0, 0, 0, 0) :: t0_5
def t0_1 : List q_I := (1, 3, .getfield 20, 9, 11, 2) :: t0_4
def t0_0 : List q_I := (0, 1, .aload_n 0, 0, 0, 0) :: t0_1
theorem t0 : q_code 0 = t0_0 := rfl
def t1_14 : List q_I := (14, 1, .ireturn, 1, 0, 0) :: []
def t1_13 : List q_I := (13, 1, .iconst 0, 0, 0, 0) :: t1_14
def t1_10 : List q_I := (10, 3, .goto 4, 14, 0, 0) :: t1_13
def t1_9 : List q_I := (9, 1, .iconst 1, 1, 0, 0) :: t1_10
def t1_6 : List q_I := (6, 3, .if_icmp .ne 7, 13, 0, 0) :: t1_9
def t1_5 : List q_I := (5, 1, .iconst 1, 1, 0, 0) :: t1_6
def t1_4 : List q_I := (4, 1, .iand, 0, 0, 0) :: t1_5
def t1_3 : List q_I := (3, 1, .iconst 1, 1, 0, 0) :: t1_4
def t1_2 : List q_I := (2, 1, .ishr, 0, 0, 0) :: t1_3
def t1_1 : List q_I := (1, 1, .iload_n 1, 1, 0, 0) :: t1_2
def t1_0 : List q_I := (0, 1, .iload_n 0, 0, 0, 0) :: t1_1
theorem t1 : q_code 1 = t1_0 := rfl
theorem j1_13 : q_jm (q_code 1) 13 = t1_13 := rfl
theorem j1_14 : q_jm (q_code 1) 14 = t1_14 := rfl
def t2_73 : List q_I := (73, 1, .ireturn, 0, 0, 0) :: []
def t2_72 : List q_I := (72, 1, .iadd, 0, 0, 0) :: t2_73
def t2_70 : List q_I := (70, 2, .iload 4, 4, 0, 0) :: t2_72
def t2_67 : List q_I := (67, 3, .goto 5, 72, 0, 0) :: t2_70
def t2_66 : List q_I := (66, 1, .ineg, 0, 0, 0) :: t2_67
def t2_64 : List q_I := (64, 2, .iload 4, 4, 0, 0) :: t2_66
def t2_61 : List q_I := (61, 3, .ifCond .ge 9, 70, 0, 0) :: t2_64
def t2_59 : List q_I := (59, 2, .iload 4, 4, 0, 0) :: t2_61
def t2_58 : List q_I := (58, 1, .iload_n 3, 3, 0, 0) :: t2_59
def t2_55 : List q_I := (55, 3, .goto 4, 59, 0, 0) :: t2_58
def t2_54 : List q_I := (54, 1, .ineg, 0, 0, 0) :: t2_55
def t2_53 : List q_I := (53, 1, .iload_n 3, 3, 0, 0) :: t2_54
def t2_50 : List q_I := (50, 3, .ifCond .ge 8, 58, 0, 0) :: t2_53
def t2_49 : List q_I := (49, 1, .iload_n 3, 3, 0, 0) :: t2_50
def t2_47 : List q_I := (47, 2, .istore 4, 4, 0, 0) :: t2_49
def t2_46 : List q_I := (46, 1, .isub, 0, 0, 0) :: t2_47
def t2_45 : List q_I := (45, 1, .idiv, 0, 0, 0) :: t2_46
def t2_44 : List q_I := (44, 1, .iaload, 0, 0, 0) :: t2_45
def t2_41 : List q_I := (41, 3, .getfield 274, 9, 34, 0) :: t2_44
def t2_40 : List q_I := (40, 1, .aload_n 0, 0, 0, 0) :: t2_41
def t2_37 : List q_I := (37, 3, .getfield 20, 9, 11, 2) :: t2_40
def t2_36 : List q_I := (36, 1, .aload_n 0, 0, 0, 0) :: t2_37
def t2_35 : List q_I := (35, 1, .iload_n 2, 2, 0, 0) :: t2_36
def t2_34 : List q_I := (34, 1, .idiv, 0, 0, 0) :: t2_35
def t2_33 : List q_I := (33, 1, .iaload, 0, 0, 0) :: t2_34
def t2_30 : List q_I := (30, 3, .getfield 274, 9, 34, 0) :: t2_33
def t2_29 : List q_I := (29, 1, .aload_n 0, 0, 0, 0) :: t2_30
def t2_26 : List q_I := (26, 3, .getfield 20, 9, 11, 2) :: t2_29
def t2_25 : List q_I := (25, 1, .aload_n 0, 0, 0, 0) :: t2_26
def t2_24 : List q_I := (24, 1, .iload_n 1, 1, 0, 0) :: t2_25
def t2_23 : List q_I := (23, 1, .istore_n 3, 3, 0, 0) :: t2_24
def t2_22 : List q_I := (22, 1, .isub, 0, 0, 0) :: t2_23
def t2_21 : List q_I := (21, 1, .irem, 0, 0, 0) :: t2_22
def t2_20 : List q_I := (20, 1, .iaload, 0, 0, 0) :: t2_21
def t2_17 : List q_I := (17, 3, .getfield 274, 9, 34, 0) :: t2_20
def t2_16 : List q_I := (16, 1, .aload_n 0, 0, 0, 0) :: t2_17
def t2_13 : List q_I := (13, 3, .getfield 20, 9, 11, 2) :: t2_16
def t2_12 : List q_I := (12, 1, .aload_n 0, 0, 0, 0) :: t2_13
def t2_11 : List q_I := (11, 1, .iload_n 2, 2, 0, 0) :: t2_12
def t2_10 : List q_I := (10, 1, .irem, 0, 0, 0) :: t2_11
def t2_9 : List q_I := (9, 1, .iaload, 0, 0, 0) :: t2_10
def t2_6 : List q_I := (6, 3, .getfield 274, 9, 34, 0) :: t2_9
def t2_5 : List q_I := (5, 1, .aload_n 0, 0, 0, 0) :: t2_6
def t2_2 : List q_I := (2, 3, .getfield 20, 9, 11, 2) :: t2_5
def t2_1 : List q_I := (1, 1, .aload_n 0, 0, 0, 0) :: t2_2
def t2_0 : List q_I := (0, 1, .iload_n 1, 1, 0, 0) :: t2_1
theorem t2 : q_code 2 = t2_0 := rfl
theorem j2_58 : q_jm (q_code 2) 58 = t2_58 := rfl
theorem j2_59 : q_jm (q_code 2) 59 = t2_59 := rfl
theorem j2_70 : q_jm (q_code 2) 70 = t2_70 := rfl
theorem j2_72 : q_jm (q_code 2) 72 = t2_72 := rfl
def t6_166 : List q_I := (166, 1, .return_, 0, 0, 0) :: []
def t6_163 : List q_I := (163, 3, .goto (-127), 36, 0, 0) :: t6_166
def t6_160 : List q_I := (160, 3, .goto (-115), 45, 0, 0) :: t6_163
def t6_157 : List q_I := (157, 3, .iinc 4 1, 4, 1, 0) :: t6_160
def t6_154 : List q_I := (154, 3, .goto (-85), 69, 0, 0) :: t6_157
def t6_151 : List q_I := (151, 3, .iinc 5 1, 5, 1, 0) :: t6_154
def t6_150 : List q_I := (150, 1, .istore_n 3, 3, 0, 0) :: t6_151
def t6_149 : List q_I := (149, 1, .iconst 1, 1, 0, 0) :: t6_150
def t6_148 : List q_I := (148, 1, .iastore, 0, 0, 0) :: t6_149
def t6_147 : List q_I := (147, 1, .iadd, 0, 0, 0) :: t6_148
def t6_146 : List q_I := (146, 1, .iaload, 0, 0, 0) :: t6_147
def t6_144 : List q_I := (144, 2, .iload 5, 5, 0, 0) :: t6_146
def t6_141 : List q_I := (141, 3, .getfield 101, 9, 46, 2) :: t6_144
def t6_140 : List q_I := (140, 1, .aload_n 0, 0, 0, 0) :: t6_141
def t6_139 : List q_I := (139, 1, .iaload, 0, 0, 0) :: t6_140
def t6_137 : List q_I := (137, 2, .iload 5, 5, 0, 0) :: t6_139
def t6_134 : List q_I := (134, 3, .getfield 98, 9, 45, 2) :: t6_137
def t6_133 : List q_I := (133, 1, .aload_n 0, 0, 0, 0) :: t6_134
def t6_131 : List q_I := (131, 2, .iload 4, 4, 0, 0) :: t6_133
def t6_128 : List q_I := (128, 3, .getfield 98, 9, 45, 2) :: t6_131
def t6_127 : List q_I := (127, 1, .aload_n 0, 0, 0, 0) :: t6_128
def t6_124 : List q_I := (124, 3, .goto 27, 151, 0, 0) :: t6_127
def t6_121 : List q_I := (121, 3, .if_icmp .lt 6, 127, 0, 0) :: t6_124
def t6_120 : List q_I := (120, 1, .iaload, 0, 0, 0) :: t6_121
def t6_118 : List q_I := (118, 2, .iload 4, 4, 0, 0) :: t6_120
def t6_115 : List q_I := (115, 3, .getfield 98, 9, 45, 2) :: t6_118
def t6_114 : List q_I := (114, 1, .aload_n 0, 0, 0, 0) :: t6_115
def t6_113 : List q_I := (113, 1, .iadd, 0, 0, 0) :: t6_114
def t6_112 : List q_I := (112, 1, .iaload, 0, 0, 0) :: t6_113
def t6_110 : List q_I := (110, 2, .iload 5, 5, 0, 0) :: t6_112
def t6_107 : List q_I := (107, 3, .getfield 101, 9, 46, 2) :: t6_110
def t6_106 : List q_I := (106, 1, .aload_n 0, 0, 0, 0) :: t6_107
def t6_105 : List q_I := (105, 1, .iaload, 0, 0, 0) :: t6_106
def t6_103 : List q_I := (103, 2, .iload 5, 5, 0, 0) :: t6_105
def t6_100 : List q_I := (100, 3, .getfield 98, 9, 45, 2) :: t6_103
def t6_99 : List q_I := (99, 1, .aload_n 0, 0, 0, 0) :: t6_100
def t6_96 : List q_I := (96, 3, .if_icmp .ne 55, 151, 0, 0) :: t6_99
def t6_95 : List q_I := (95, 1, .iconst 1, 1, 0, 0) :: t6_96
def t6_92 : List q_I := (92, 3, .invokevirtual 409, 2, 3, 9) :: t6_95
def t6_90 : List q_I := (90, 2, .iload 5, 5, 0, 0) :: t6_92
def t6_88 : List q_I := (88, 2, .iload 4, 4, 0, 0) :: t6_90
def t6_87 : List q_I := (87, 1, .aload_n 0, 0, 0, 0) :: t6_88
def t6_84 : List q_I := (84, 3, .ifCond .ne 67, 151, 0, 0) :: t6_87
def t6_81 : List q_I := (81, 3, .invokestatic 300, 1, 2, 0) :: t6_84
def t6_79 : List q_I := (79, 2, .iload 5, 5, 0, 0) :: t6_81
def t6_78 : List q_I := (78, 1, .iload_n 2, 2, 0, 0) :: t6_79
def t6_75 : List q_I := (75, 3, .if_icmp .ge 82, 157, 0, 0) :: t6_78
def t6_72 : List q_I := (72, 3, .invokevirtual 364, 0, 1, 9) :: t6_75
def t6_71 : List q_I := (71, 1, .aload_n 0, 0, 0, 0) :: t6_72
def t6_69 : List q_I := (69, 2, .iload 5, 5, 0, 0) :: t6_71
def t6_67 : List q_I := (67, 2, .istore 5, 5, 0, 0) :: t6_69
def t6_66 : List q_I := (66, 1, .iconst 0, 0, 0, 0) :: t6_67
def t6_63 : List q_I := (63, 3, .goto 94, 157, 0, 0) :: t6_66
def t6_60 : List q_I := (60, 3, .ifCond .eq 6, 66, 0, 0) :: t6_63
def t6_57 : List q_I := (57, 3, .invokestatic 300, 1, 2, 0) :: t6_60
def t6_55 : List q_I := (55, 2, .iload 4, 4, 0, 0) :: t6_57
def t6_54 : List q_I := (54, 1, .iload_n 2, 2, 0, 0) :: t6_55
def t6_51 : List q_I := (51, 3, .if_icmp .ge 112, 163, 0, 0) :: t6_54
def t6_48 : List q_I := (48, 3, .invokevirtual 364, 0, 1, 9) :: t6_51
def t6_47 : List q_I := (47, 1, .aload_n 0, 0, 0, 0) :: t6_48
def t6_45 : List q_I := (45, 2, .iload 4, 4, 0, 0) :: t6_47
def t6_43 : List q_I := (43, 2, .istore 4, 4, 0, 0) :: t6_45
def t6_42 : List q_I := (42, 1, .iconst 0, 0, 0, 0) :: t6_43
def t6_41 : List q_I := (41, 1, .istore_n 3, 3, 0, 0) :: t6_42
def t6_40 : List q_I := (40, 1, .iconst 0, 0, 0, 0) :: t6_41
def t6_37 : List q_I := (37, 3, .ifCond .eq 129, 166, 0, 0) :: t6_40
def t6_36 : List q_I := (36, 1, .iload_n 3, 3, 0, 0) :: t6_37
def t6_35 : List q_I := (35, 1, .istore_n 3, 3, 0, 0) :: t6_36
def t6_34 : List q_I := (34, 1, .iconst 1, 1, 0, 0) :: t6_35
def t6_31 : List q_I := (31, 3, .goto (-29), 2, 0, 0) :: t6_34
def t6_28 : List q_I := (28, 3, .iinc 3 1, 3, 1, 0) :: t6_31
def t6_27 : List q_I := (27, 1, .iastore, 0, 0, 0) :: t6_28
def t6_24 : List q_I := (24, 3, .sipush 10000, 10000, 0, 0) :: t6_27
def t6_21 : List q_I := (21, 3, .goto 6, 27, 0, 0) :: t6_24
def t6_20 : List q_I := (20, 1, .iconst 0, 0, 0, 0) :: t6_21
def t6_17 : List q_I := (17, 3, .if_icmp .ne 7, 24, 0, 0) :: t6_20
def t6_16 : List q_I := (16, 1, .iload_n 1, 1, 0, 0) :: t6_17
def t6_15 : List q_I := (15, 1, .iload_n 3, 3, 0, 0) :: t6_16
def t6_14 : List q_I := (14, 1, .iload_n 3, 3, 0, 0) :: t6_15
def t6_11 : List q_I := (11, 3, .getfield 98, 9, 45, 2) :: t6_14
def t6_10 : List q_I := (10, 1, .aload_n 0, 0, 0, 0) :: t6_11
def t6_7 : List q_I := (7, 3, .if_icmp .ge 27, 34, 0, 0) :: t6_10
def t6_4 : List q_I := (4, 3, .invokevirtual 364, 0, 1, 9) :: t6_7
def t6_3 : List q_I := (3, 1, .aload_n 0, 0, 0, 0) :: t6_4
def t6_2 : List q_I := (2, 1, .iload_n 3, 3, 0, 0) :: t6_3
def t6_1 : List q_I := (1, 1, .istore_n 3, 3, 0, 0) :: t6_2
def t6_0 : List q_I := (0, 1, .iconst 0, 0, 0, 0) :: t6_1
theorem t6 : q_code 6 = t6_0 := rfl
theorem j6_2 : q_jm (q_code 6) 2 = t6_2 := rfl
theorem j6_24 : q_jm (q_code 6) 24 = t6_24 := rfl
theorem j6_27 : q_jm (q_code 6) 27 = t6_27 := rfl
theorem j6_34 : q_jm (q_code 6) 34 = t6_34 := rfl
theorem j6_36 : q_jm (q_code 6) 36 = t6_36 := rfl
theorem j6_45 : q_jm (q_code 6) 45 = t6_45 := rfl
theorem j6_66 : q_jm (q_code 6) 66 = t6_66 := rfl
theorem j6_69 : q_jm (q_code 6) 69 = t6_69 := rfl
theorem j6_127 : q_jm (q_code 6) 127 = t6_127 := rfl
theorem j6_151 : q_jm (q_code 6) 151 = t6_151 := rfl
theorem j6_157 : q_jm (q_code 6) 157 = t6_157 := rfl
theorem j6_163 : q_jm (q_code 6) 163 = t6_163 := rfl
theorem j6_166 : q_jm (q_code 6) 166 = t6_166 := rfl
def t7_33 : List q_I := (33, 1, .ireturn, 1, 0, 0) :: []
def t7_32 : List q_I := (32, 1, .iconst 0, 0, 0, 0) :: t7_33
def t7_29 : List q_I := (29, 3, .goto 4, 33, 0, 0) :: t7_32
def t7_28 : List q_I := (28, 1, .iconst 1, 1, 0, 0) :: t7_29
def t7_25 : List q_I := (25, 3, .if_icmp .ne 7, 32, 0, 0) :: t7_28
def t7_22 : List q_I := (22, 3, .sipush 10000, 10000, 0, 0) :: t7_25
def t7_21 : List q_I := (21, 1, .iaload, 0, 0, 0) :: t7_22
def t7_20 : List q_I := (20, 1, .iload_n 1, 1, 0, 0) :: t7_21
def t7_17 : List q_I := (17, 3, .getfield 98, 9, 45, 2) :: t7_20
def t7_16 : List q_I := (16, 1, .aload_n 0, 0, 0, 0) :: t7_17
def t7_13 : List q_I := (13, 3, .invokevirtual 424, 6, 3, 9) :: t7_16
def t7_12 : List q_I := (12, 1, .ior, 0, 0, 0) :: t7_13
def t7_11 : List q_I := (11, 1, .iload_n 3, 3, 0, 0) :: t7_12
def t7_10 : List q_I := (10, 1, .iaload, 0, 0, 0) :: t7_11
def t7_7 : List q_I := (7, 3, .getfield 274, 9, 34, 0) :: t7_10
def t7_6 : List q_I := (6, 1, .aload_n 0, 0, 0, 0) :: t7_7
def t7_3 : List q_I := (3, 3, .getfield 33, 9, 15, 2) :: t7_6
def t7_2 : List q_I := (2, 1, .aload_n 0, 0, 0, 0) :: t7_3
def t7_1 : List q_I := (1, 1, .iload_n 2, 2, 0, 0) :: t7_2
def t7_0 : List q_I := (0, 1, .aload_n 0, 0, 0, 0) :: t7_1
theorem t7 : q_code 7 = t7_0 := rfl
theorem j7_32 : q_jm (q_code 7) 32 = t7_32 := rfl
theorem j7_33 : q_jm (q_code 7) 33 = t7_33 := rfl
def t127_21 : List q_I := (21, 1, .return_, 0, 0, 0) :: []
def t127_18 : List q_I := (18, 3, .goto (-16), 2, 0, 0) :: t127_21
def t127_15 : List q_I := (15, 3, .iinc 1 1, 1, 1, 0) :: t127_18
def t127_14 : List q_I := (14, 1, .iastore, 0, 0, 0) :: t127_15
def t127_13 : List q_I := (13, 1, .iconst 1, 1, 0, 0) :: t127_14
def t127_12 : List q_I := (12, 1, .iload_n 1, 1, 0, 0) :: t127_13
def t127_9 : List q_I := (9, 3, .getfield 101, 9, 46, 2) :: t127_12
def t127_8 : List q_I := (8, 1, .aload_n 0, 0, 0, 0) :: t127_9
def t127_5 : List q_I := (5, 3, .if_icmp .ge 16, 21, 0, 0) :: t127_8
def t127_3 : List q_I := (3, 2, .bipush 25, 25, 0, 0) :: t127_5
def t127_2 : List q_I := (2, 1, .iload_n 1, 1, 0, 0) :: t127_3
def t127_1 : List q_I := (1, 1, .istore_n 1, 1, 0, 0) :: t127_2
def t127_0 : List q_I := (0, 1, .iconst 0, 0, 0, 0) :: t127_1
theorem t127 : q_code 127 = t127_0 := rfl
theorem j127_2 : q_jm (q_code 127) 2 = t127_2 := rfl
theorem j127_21 : q_jm (q_code 127) 21 = t127_21 := rfl
def t139_21 : List q_I := (21, 1, .ireturn, 0, 0, 0) :: []
def t139_20 : List q_I := (20, 1, .iload_n 1, 1, 0, 0) :: t139_21
def t139_17 : List q_I := (17, 3, .goto (-13), 4, 0, 0) :: t139_20
def t139_16 : List q_I := (16, 1, .istore_n 2, 2, 0, 0) :: t139_17
def t139_15 : List q_I := (15, 1, .iand, 0, 0, 0) :: t139_16
def t139_14 : List q_I := (14, 1, .isub, 0, 0, 0) :: t139_15
def t139_13 : List q_I := (13, 1, .iconst 1, 1, 0, 0) :: t139_14
def t139_12 : List q_I := (12, 1, .iload_n 2, 2, 0, 0) :: t139_13
def t139_11 : List q_I := (11, 1, .iload_n 2, 2, 0, 0) :: t139_12
def t139_8 : List q_I := (8, 3, .iinc 1 1, 1, 1, 0) :: t139_11
def t139_5 : List q_I := (5, 3, .ifCond .eq 15, 20, 0, 0) :: t139_8
def t139_4 : List q_I := (4, 1, .iload_n 2, 2, 0, 0) :: t139_5
def t139_3 : List q_I := (3, 1, .istore_n 2, 2, 0, 0) :: t139_4
def t139_2 : List q_I := (2, 1, .iload_n 0, 0, 0, 0) :: t139_3
def t139_1 : List q_I := (1, 1, .istore_n 1, 1, 0, 0) :: t139_2
def t139_0 : List q_I := (0, 1, .iconst 0, 0, 0, 0) :: t139_1
theorem t139 : q_code 139 = t139_0 := rfl
theorem j139_4 : q_jm (q_code 139) 4 = t139_4 := rfl
theorem j139_20 : q_jm (q_code 139) 20 = t139_20 := rfl
def t180_175 : List q_I := (175, 1, .ireturn, 0, 0, 0) :: []
def t180_173 : List q_I := (173, 2, .iload 4, 4, 0, 0) :: t180_175
def t180_170 : List q_I := (170, 3, .goto (-130), 40, 0, 0) :: t180_173
def t180_167 : List q_I := (167, 3, .iinc 5 1, 5, 1, 0) :: t180_170
def t180_164 : List q_I := (164, 3, .goto (-111), 53, 0, 0) :: t180_167
def t180_161 : List q_I := (161, 3, .iinc 6 1, 6, 1, 0) :: t180_164
def t180_158 : List q_I := (158, 3, .goto (-92), 66, 0, 0) :: t180_161
def t180_155 : List q_I := (155, 3, .iinc 7 1, 7, 1, 0) :: t180_158
def t180_153 : List q_I := (153, 2, .istore 4, 4, 0, 0) :: t180_155
def t180_151 : List q_I := (151, 2, .iload 8, 8, 0, 0) :: t180_153
def t180_148 : List q_I := (148, 3, .ifCond .eq 7, 155, 0, 0) :: t180_151
def t180_145 : List q_I := (145, 3, .invokevirtual 436, 7, 4, 9) :: t180_148
def t180_143 : List q_I := (143, 2, .iload 8, 8, 0, 0) :: t180_145
def t180_142 : List q_I := (142, 1, .iload_n 2, 2, 0, 0) :: t180_143
def t180_141 : List q_I := (141, 1, .iload_n 1, 1, 0, 0) :: t180_142
def t180_140 : List q_I := (140, 1, .aload_n 0, 0, 0, 0) :: t180_141
def t180_137 : List q_I := (137, 3, .if_icmp .ge 18, 155, 0, 0) :: t180_140
def t180_135 : List q_I := (135, 2, .iload 4, 4, 0, 0) :: t180_137
def t180_133 : List q_I := (133, 2, .iload 8, 8, 0, 0) :: t180_135
def t180_130 : List q_I := (130, 3, .ifCond .ne 25, 155, 0, 0) :: t180_133
def t180_128 : List q_I := (128, 2, .iload 9, 9, 0, 0) :: t180_130
def t180_125 : List q_I := (125, 3, .ifCond .lt 15, 140, 0, 0) :: t180_128
def t180_123 : List q_I := (123, 2, .iload 9, 9, 0, 0) :: t180_125
def t180_121 : List q_I := (121, 2, .istore 9, 9, 0, 0) :: t180_123
def t180_120 : List q_I := (120, 1, .isub, 0, 0, 0) :: t180_121
def t180_117 : List q_I := (117, 3, .invokestatic 403, 139, 1, 0) :: t180_120
def t180_115 : List q_I := (115, 2, .iload 4, 4, 0, 0) :: t180_117
def t180_112 : List q_I := (112, 3, .invokestatic 403, 139, 1, 0) :: t180_115
def t180_110 : List q_I := (110, 2, .iload 8, 8, 0, 0) :: t180_112
def t180_107 : List q_I := (107, 3, .goto 14, 121, 0, 0) :: t180_110
def t180_106 : List q_I := (106, 1, .iconst (-1), 4294967295, 0, 0) :: t180_107
def t180_103 : List q_I := (103, 3, .ifCond .ge 7, 110, 0, 0) :: t180_106
def t180_101 : List q_I := (101, 2, .iload 4, 4, 0, 0) :: t180_103
def t180_98 : List q_I := (98, 3, .goto 57, 155, 0, 0) :: t180_101
def t180_95 : List q_I := (95, 3, .ifCond .eq 6, 101, 0, 0) :: t180_98
def t180_94 : List q_I := (94, 1, .iand, 0, 0, 0) :: t180_95
def t180_93 : List q_I := (93, 1, .iload_n 3, 3, 0, 0) :: t180_94
def t180_91 : List q_I := (91, 2, .iload 8, 8, 0, 0) :: t180_93
def t180_89 : List q_I := (89, 2, .istore 8, 8, 0, 0) :: t180_91
def t180_88 : List q_I := (88, 1, .ior, 0, 0, 0) :: t180_89
def t180_87 : List q_I := (87, 1, .ishl, 0, 0, 0) :: t180_88
def t180_85 : List q_I := (85, 2, .iload 7, 7, 0, 0) :: t180_87
def t180_84 : List q_I := (84, 1, .iconst 1, 1, 0, 0) :: t180_85
def t180_83 : List q_I := (83, 1, .ior, 0, 0, 0) :: t180_84
def t180_82 : List q_I := (82, 1, .ishl, 0, 0, 0) :: t180_83
def t180_80 : List q_I := (80, 2, .iload 6, 6, 0, 0) :: t180_82
def t180_79 : List q_I := (79, 1, .iconst 1, 1, 0, 0) :: t180_80
def t180_78 : List q_I := (78, 1, .ishl, 0, 0, 0) :: t180_79
def t180_76 : List q_I := (76, 2, .iload 5, 5, 0, 0) :: t180_78
def t180_75 : List q_I := (75, 1, .iconst 1, 1, 0, 0) :: t180_76
def t180_72 : List q_I := (72, 3, .if_icmp .ge 89, 161, 0, 0) :: t180_75
def t180_69 : List q_I := (69, 3, .invokevirtual 364, 0, 1, 9) :: t180_72
def t180_68 : List q_I := (68, 1, .aload_n 0, 0, 0, 0) :: t180_69
def t180_66 : List q_I := (66, 2, .iload 7, 7, 0, 0) :: t180_68
def t180_64 : List q_I := (64, 2, .istore 7, 7, 0, 0) :: t180_66
def t180_62 : List q_I := (62, 2, .iload 6, 6, 0, 0) :: t180_64
def t180_59 : List q_I := (59, 3, .if_icmp .ge 108, 167, 0, 0) :: t180_62
def t180_56 : List q_I := (56, 3, .invokevirtual 364, 0, 1, 9) :: t180_59
def t180_55 : List q_I := (55, 1, .aload_n 0, 0, 0, 0) :: t180_56
def t180_53 : List q_I := (53, 2, .iload 6, 6, 0, 0) :: t180_55
def t180_51 : List q_I := (51, 2, .istore 6, 6, 0, 0) :: t180_53
def t180_49 : List q_I := (49, 2, .iload 5, 5, 0, 0) :: t180_51
def t180_46 : List q_I := (46, 3, .if_icmp .ge 127, 173, 0, 0) :: t180_49
def t180_43 : List q_I := (43, 3, .invokevirtual 364, 0, 1, 9) :: t180_46
def t180_42 : List q_I := (42, 1, .aload_n 0, 0, 0, 0) :: t180_43
def t180_40 : List q_I := (40, 2, .iload 5, 5, 0, 0) :: t180_42
def t180_38 : List q_I := (38, 2, .istore 5, 5, 0, 0) :: t180_40
def t180_37 : List q_I := (37, 1, .iconst 0, 0, 0, 0) :: t180_38
def t180_35 : List q_I := (35, 2, .istore 4, 4, 0, 0) :: t180_37
def t180_34 : List q_I := (34, 1, .iconst (-1), 4294967295, 0, 0) :: t180_35
def t180_33 : List q_I := (33, 1, .ireturn, 0, 0, 0) :: t180_34
def t180_32 : List q_I := (32, 1, .iconst 0, 0, 0, 0) :: t180_33
def t180_29 : List q_I := (29, 3, .ifCond .eq 5, 34, 0, 0) :: t180_32
def t180_26 : List q_I := (26, 3, .invokevirtual 436, 7, 4, 9) :: t180_29
def t180_25 : List q_I := (25, 1, .iconst 0, 0, 0, 0) :: t180_26
def t180_24 : List q_I := (24, 1, .iload_n 2, 2, 0, 0) :: t180_25
def t180_23 : List q_I := (23, 1, .iload_n 1, 1, 0, 0) :: t180_24
def t180_22 : List q_I := (22, 1, .aload_n 0, 0, 0, 0) :: t180_23
def t180_21 : List q_I := (21, 1, .istore_n 3, 3, 0, 0) :: t180_22
def t180_20 : List q_I := (20, 1, .ior, 0, 0, 0) :: t180_21
def t180_19 : List q_I := (19, 1, .ishl, 0, 0, 0) :: t180_20
def t180_18 : List q_I := (18, 1, .iload_n 2, 2, 0, 0) :: t180_19
def t180_17 : List q_I := (17, 1, .iconst 1, 1, 0, 0) :: t180_18
def t180_16 : List q_I := (16, 1, .ior, 0, 0, 0) :: t180_17
def t180_15 : List q_I := (15, 1, .ishl, 0, 0, 0) :: t180_16
def t180_14 : List q_I := (14, 1, .iload_n 1, 1, 0, 0) :: t180_15
def t180_13 : List q_I := (13, 1, .iconst 1, 1, 0, 0) :: t180_14
def t180_12 : List q_I := (12, 1, .iaload, 0, 0, 0) :: t180_13
def t180_9 : List q_I := (9, 3, .getfield 274, 9, 34, 0) :: t180_12
def t180_8 : List q_I := (8, 1, .aload_n 0, 0, 0, 0) :: t180_9
def t180_5 : List q_I := (5, 3, .getfield 33, 9, 15, 2) :: t180_8
def t180_4 : List q_I := (4, 1, .aload_n 0, 0, 0, 0) :: t180_5
def t180_1 : List q_I := (1, 3, .invokevirtual 421, 127, 1, 9) :: t180_4
def t180_0 : List q_I := (0, 1, .aload_n 0, 0, 0, 0) :: t180_1
theorem t180 : q_code 180 = t180_0 := rfl
theorem j180_34 : q_jm (q_code 180) 34 = t180_34 := rfl
theorem j180_40 : q_jm (q_code 180) 40 = t180_40 := rfl
theorem j180_53 : q_jm (q_code 180) 53 = t180_53 := rfl
theorem j180_66 : q_jm (q_code 180) 66 = t180_66 := rfl
theorem j180_101 : q_jm (q_code 180) 101 = t180_101 := rfl
theorem j180_110 : q_jm (q_code 180) 110 = t180_110 := rfl
theorem j180_121 : q_jm (q_code 180) 121 = t180_121 := rfl
theorem j180_140 : q_jm (q_code 180) 140 = t180_140 := rfl
theorem j180_155 : q_jm (q_code 180) 155 = t180_155 := rfl
theorem j180_161 : q_jm (q_code 180) 161 = t180_161 := rfl
theorem j180_167 : q_jm (q_code 180) 167 = t180_167 := rfl
theorem j180_173 : q_jm (q_code 180) 173 = t180_173 := rfl
def z_n48 : Nat := 0x4000001fd0000007e000000000000000004000001f50000007c4000001ed0000007a4000001e5000000784000001dd000000764000001d5000000744000001cd000000724000001c5000000704000001bc000000004000001b90000006d4000001b0000000000000000010000006b4000001a8000000000000000000000000000000000000000000000000000000000004000001a50000006840000019d000000664000001950000006440000018d000000624000001850000006040000017d0000005e4000001750000005c40000016d0000005a4000001650000005840000015d000000564000001550000005440000014d0000001100000000000000000000000000000000003fffffffc000000000000000000000000040000014900000051
def z_w1 : Nat := 0x1000000004000000010000000040000000100000000400000001000000004000000010000000040000000100000000400000001000000004000000010000000040000000100000000400000001000000004000000010000000040000000100000000400000001
noncomputable def zv (M : Nat) : q_H := q_up q_h0 77 1 25 M
noncomputable def zh (N : Nat) : q_H := q_up (zv z_w1) 76 1 25 N
theorem z_e0 : q_tg 7 q_h0.2 48 = (18, 68, z_n48) ∧ q_tg 7 q_h0.2 51 = (1, 2, 4) ∧ q_tg 7 q_h0.2 52 = (1, 2, 4) ∧ q_tg 7 q_h0.2 55 = (1, 2, 0) := by decide +kernel
theorem zv_tg (M j : Nat) (hj : j < 128) : q_tg 7 (zv M).2 j = if j = 77 then (1, 25, M) else q_tg 7 q_h0.2 j := q_tg_ts 7 q_h0.2 77 j (1, 25, M) (by decide) hj
theorem zh_tg (N j : Nat) (hj : j < 128) : q_tg 7 (zh N).2 j = if j = 76 then (1, 25, N) else if j = 77 then (1, 25, z_w1) else q_tg 7 q_h0.2 j := (q_tg_ts 7 (zv z_w1).2 76 j (1, 25, N) (by decide) hj).trans (by rw [zv_tg z_w1 j hj])
theorem zv48 (M : Nat) : q_tg 7 (zv M).2 48 = (18, 68, z_n48) := (zv_tg M 48 (by decide)).trans z_e0.1
theorem zv77 (M : Nat) : q_tg 7 (zv M).2 77 = (1, 25, M) := zv_tg M 77 (by decide)
theorem zh48 (N : Nat) : q_tg 7 (zh N).2 48 = (18, 68, z_n48) := (zh_tg N 48 (by decide)).trans z_e0.1
theorem zh51 (N : Nat) : q_tg 7 (zh N).2 51 = (1, 2, 4) := (zh_tg N 51 (by decide)).trans z_e0.2.1
theorem zh52 (N : Nat) : q_tg 7 (zh N).2 52 = (1, 2, 4) := (zh_tg N 52 (by decide)).trans z_e0.2.2.1
theorem zh55 (N : Nat) : q_tg 7 (zh N).2 55 = (1, 2, 0) := (zh_tg N 55 (by decide)).trans z_e0.2.2.2
theorem zh76 (N : Nat) : q_tg 7 (zh N).2 76 = (1, 25, N) := zh_tg N 76 (by decide)
theorem zh77 (N : Nat) : q_tg 7 (zh N).2 77 = (1, 25, z_w1) := zh_tg N 77 (by decide)
theorem zhl (N : Nat) : (zh N).1 ≤ 128 := show 96 ≤ 128 by decide
theorem zvl (N : Nat) : (zv N).1 ≤ 128 := show 96 ≤ 128 by decide
theorem zhu (N N' : Nat) : q_up (zh N) 76 1 25 N' = zh N' := z_upup (zv z_w1) 76 1 25 N 1 25 N'
theorem zvu (N N' : Nat) : q_up (zv N) 77 1 25 N' = zv N' := z_upup q_h0 77 1 25 N 1 25 N'
theorem z_gw : ∀ c, c < 25 → q_get z_w1 c = 1 := by decide +kernel
theorem z_g51 : q_get 4 0 = 4 := by decide +kernel
theorem z_g55 : q_get 0 0 = 0 := by decide +kernel
theorem z_g48_11 : q_get z_n48 11 = 4294967379 := by decide +kernel
theorem z_g48_12 : q_get z_n48 12 = 4294967380 := by decide +kernel
theorem z_g48_15 : q_get z_n48 15 = 4294967383 := by decide +kernel
theorem z_g48_34 : q_get z_n48 34 = 0 := by decide +kernel
theorem z_g48_45 : q_get z_n48 45 = 4294967404 := by decide +kernel
theorem z_g48_46 : q_get z_n48 46 = 4294967405 := by decide +kernel
theorem c0 {d N : Nat} : ZC d 0 [4294967376] (zh N) (zh N, [16]) := by
  refine z_C (l := [4294967377]) (z_bc (by decide) z_bn) t0 (fun j => by rcases j with _ | _ | _ | _ | _ | _ | _ | _ | _ | _ | _ | _ | j <;> rfl) ?_
  refine z_aln (c := 4294967376) rfl (by decide) ?_
  refine z_gf (j := 48) (v := 4294967379) rfl (show 48 < 96 by decide) (zhl N) (zh48 N) (by decide) z_g48_11 (by decide) ?_
  refine z_aln (c := 4294967376) rfl (by decide) ?_
  refine z_gf (j := 48) (v := 0) rfl (show 48 < 96 by decide) (zhl N) (zh48 N) (by decide) z_g48_34 (by decide) ?_
  refine z_ia (j := 51) (m := 0) (v := 4) rfl (show 51 < 96 by decide) (zhl N) (zh51 N) (by decide) z_g51 ?_
  refine z_aln (c := 4294967376) rfl (by decide) ?_
  refine z_gf (j := 48) (v := 4294967380) rfl (show 48 < 96 by decide) (zhl N) (zh48 N) (by decide) z_g48_12 (by decide) ?_
  refine z_aln (c := 4294967376) rfl (by decide) ?_
  refine z_gf (j := 48) (v := 0) rfl (show 48 < 96 by decide) (zhl N) (zh48 N) (by decide) z_g48_34 (by decide) ?_
  refine z_ia (j := 52) (m := 0) (v := 4) rfl (show 52 < 96 by decide) (zhl N) (zh52 N) (by decide) z_g51 ?_
  refine z_mul (v := 16) (by decide) (by decide) rfl (by decide) ?_
  exact z_ir rfl (by decide)
theorem z_tb (s k : Nat) : (s >>> k) &&& 1 = (s.testBit k).toNat := by
  rw [Nat.and_one_is_mod, Nat.shiftRight_eq_div_pow, Nat.testBit_eq_decide_div_mod_eq]
  rcases Nat.mod_two_eq_zero_or_one (s / 2 ^ k) with h | h <;> rw [h] <;> rfl
theorem c1T {d s k : Nat} {h : q_H} (hs : s ≤ 2147483647) (hk : k < 32) (hb : s.testBit k = true) : ZC d 1 [s, k] h (h, [1]) := by
  have e : (s >>> k) &&& 1 = 1 := by rw [z_tb, hb]; rfl
  refine z_C (l := [s + 1, k + 1]) (z_bc (z_em (by omega : s ≤ 4294967295)) (z_bc (z_em (by omega : k ≤ 4294967295)) z_bn)) t1 (fun j => by rcases j with _ | _ | _ | _ | _ | _ | _ | _ | _ | _ | _ | _ | j <;> rfl) ?_
  refine z_iln (c := s) rfl (by omega : s ≤ 4294967295) ?_
  refine z_iln (c := k) rfl (by omega : k ≤ 4294967295) ?_
  refine z_shr (a := s) (b := k) hs hk ?_
  refine z_ic ?_
  refine z_and (a := s >>> k) (b := 1) (v := (s >>> k) &&& 1) (z_shl' (by omega : s ≤ 4294967295)) (by decide) rfl ?_
  refine z_ic ?_
  refine z_iF (z_neF (z_anl (z_shl' (by omega))) e) ?_
  refine z_ic ?_
  refine z_go j1_14 ?_
  exact z_ir1 rfl (by decide)
theorem c1F {d s k : Nat} {h : q_H} (hs : s ≤ 2147483647) (hk : k < 32) (hb : s.testBit k = false) : ZC d 1 [s, k] h (h, [0]) := by
  have e : ¬ (s >>> k) &&& 1 = 1 := by rw [z_tb, hb]; decide
  refine z_C (l := [s + 1, k + 1]) (z_bc (z_em (by omega : s ≤ 4294967295)) (z_bc (z_em (by omega : k ≤ 4294967295)) z_bn)) t1 (fun j => by rcases j with _ | _ | _ | _ | _ | _ | _ | _ | _ | _ | _ | _ | j <;> rfl) ?_
  refine z_iln (c := s) rfl (by omega : s ≤ 4294967295) ?_
  refine z_iln (c := k) rfl (by omega : k ≤ 4294967295) ?_
  refine z_shr (a := s) (b := k) hs hk ?_
  refine z_ic ?_
  refine z_and (a := s >>> k) (b := 1) (v := (s >>> k) &&& 1) (z_shl' (by omega : s ≤ 4294967295)) (by decide) rfl ?_
  refine z_ic ?_
  refine z_iT (z_neT (z_anl (z_shl' (by omega))) (by decide) e) j1_13 ?_
  refine z_ic ?_
  exact z_ir1 rfl (by decide)
def z_sb (c e : Nat) : Nat := (c % 4 - e % 4 + (e % 4 - c % 4)) + (c / 4 - e / 4 + (e / 4 - c / 4))
theorem c2 {d N c e : Nat} (hc : c < 16) (he : e < 16) : ZC d 2 [4294967376, c, e] (zh N) (zh N, [z_sb c e]) := by
  refine z_C (l := [4294967377, c + 1, e + 1, 0, 0]) (z_bc (by decide) (z_bc (z_em (by omega : c ≤ 4294967295)) (z_bc (z_em (by omega : e ≤ 4294967295)) z_bn))) t2 (fun j => by rcases j with _ | _ | _ | _ | _ | _ | _ | _ | _ | _ | _ | _ | j <;> rfl) ?_
  by_cases h1 : e % 4 ≤ c % 4
  · by_cases h2 : e / 4 ≤ c / 4
    · skip
      refine z_iln (c := c) rfl (by omega : c ≤ 4294967295) ?_
      refine z_aln (c := 4294967376) rfl (by decide) ?_
      refine z_gf (j := 48) (v := 4294967379) rfl (show 48 < 96 by decide) (zhl N) (zh48 N) (by decide) z_g48_11 (by decide) ?_
      refine z_aln (c := 4294967376) rfl (by decide) ?_
      refine z_gf (j := 48) (v := 0) rfl (show 48 < 96 by decide) (zhl N) (zh48 N) (by decide) z_g48_34 (by decide) ?_
      refine z_ia (j := 51) (m := 0) (v := 4) rfl (show 51 < 96 by decide) (zhl N) (zh51 N) (by decide) z_g51 ?_
      refine z_rem (a := c) (b := 4) (v := c % 4) (by omega) (by decide) (by decide) rfl ?_
      refine z_iln (c := e) rfl (by omega : e ≤ 4294967295) ?_
      refine z_aln (c := 4294967376) rfl (by decide) ?_
      refine z_gf (j := 48) (v := 4294967379) rfl (show 48 < 96 by decide) (zhl N) (zh48 N) (by decide) z_g48_11 (by decide) ?_
      refine z_aln (c := 4294967376) rfl (by decide) ?_
      refine z_gf (j := 48) (v := 0) rfl (show 48 < 96 by decide) (zhl N) (zh48 N) (by decide) z_g48_34 (by decide) ?_
      refine z_ia (j := 51) (m := 0) (v := 4) rfl (show 51 < 96 by decide) (zhl N) (zh51 N) (by decide) z_g51 ?_
      refine z_rem (a := e) (b := 4) (v := e % 4) (by omega) (by decide) (by decide) rfl ?_
      refine z_sub (a := c % 4) (b := e % 4) (v := c % 4 - e % 4) (by omega : c % 4 ≤ 4294967295) (by omega : e % 4 ≤ 4294967295) (by omega) ?_
      refine z_isn (show 3 < 5 by decide) (by omega : c % 4 - e % 4 ≤ 4294967295) ?_
      refine z_iln (c := c) rfl (by omega : c ≤ 4294967295) ?_
      refine z_aln (c := 4294967376) rfl (by decide) ?_
      refine z_gf (j := 48) (v := 4294967379) rfl (show 48 < 96 by decide) (zhl N) (zh48 N) (by decide) z_g48_11 (by decide) ?_
      refine z_aln (c := 4294967376) rfl (by decide) ?_
      refine z_gf (j := 48) (v := 0) rfl (show 48 < 96 by decide) (zhl N) (zh48 N) (by decide) z_g48_34 (by decide) ?_
      refine z_ia (j := 51) (m := 0) (v := 4) rfl (show 51 < 96 by decide) (zhl N) (zh51 N) (by decide) z_g51 ?_
      refine z_div (a := c) (b := 4) (v := c / 4) (by omega) (by decide) (by decide) rfl ?_
      refine z_iln (c := e) rfl (by omega : e ≤ 4294967295) ?_
      refine z_aln (c := 4294967376) rfl (by decide) ?_
      refine z_gf (j := 48) (v := 4294967379) rfl (show 48 < 96 by decide) (zhl N) (zh48 N) (by decide) z_g48_11 (by decide) ?_
      refine z_aln (c := 4294967376) rfl (by decide) ?_
      refine z_gf (j := 48) (v := 0) rfl (show 48 < 96 by decide) (zhl N) (zh48 N) (by decide) z_g48_34 (by decide) ?_
      refine z_ia (j := 51) (m := 0) (v := 4) rfl (show 51 < 96 by decide) (zhl N) (zh51 N) (by decide) z_g51 ?_
      refine z_div (a := e) (b := 4) (v := e / 4) (by omega) (by decide) (by decide) rfl ?_
      refine z_sub (a := c / 4) (b := e / 4) (v := c / 4 - e / 4) (by omega : c / 4 ≤ 4294967295) (by omega : e / 4 ≤ 4294967295) (by omega) ?_
      refine z_is (show 4 < 5 by decide) (by omega : c / 4 - e / 4 ≤ 4294967295) ?_
      refine z_iln (c := c % 4 - e % 4) rfl (by omega : c % 4 - e % 4 ≤ 4294967295) ?_
      refine z_cT (z_geT (by omega) (by decide) (Nat.zero_le _)) j2_58 ?_
      refine z_iln (c := c % 4 - e % 4) rfl (by omega : c % 4 - e % 4 ≤ 4294967295) ?_
      refine z_il (c := c / 4 - e / 4) rfl (by omega : c / 4 - e / 4 ≤ 4294967295) ?_
      refine z_cT (z_geT (by omega) (by decide) (Nat.zero_le _)) j2_70 ?_
      refine z_il (c := c / 4 - e / 4) rfl (by omega : c / 4 - e / 4 ≤ 4294967295) ?_
      refine z_add (a := c % 4 - e % 4) (b := c / 4 - e / 4) (v := z_sb c e) (by unfold z_sb; omega) (by unfold z_sb; omega) ?_
      exact z_ir rfl (by unfold z_sb; omega)
    · skip
      refine z_iln (c := c) rfl (by omega : c ≤ 4294967295) ?_
      refine z_aln (c := 4294967376) rfl (by decide) ?_
      refine z_gf (j := 48) (v := 4294967379) rfl (show 48 < 96 by decide) (zhl N) (zh48 N) (by decide) z_g48_11 (by decide) ?_
      refine z_aln (c := 4294967376) rfl (by decide) ?_
      refine z_gf (j := 48) (v := 0) rfl (show 48 < 96 by decide) (zhl N) (zh48 N) (by decide) z_g48_34 (by decide) ?_
      refine z_ia (j := 51) (m := 0) (v := 4) rfl (show 51 < 96 by decide) (zhl N) (zh51 N) (by decide) z_g51 ?_
      refine z_rem (a := c) (b := 4) (v := c % 4) (by omega) (by decide) (by decide) rfl ?_
      refine z_iln (c := e) rfl (by omega : e ≤ 4294967295) ?_
      refine z_aln (c := 4294967376) rfl (by decide) ?_
      refine z_gf (j := 48) (v := 4294967379) rfl (show 48 < 96 by decide) (zhl N) (zh48 N) (by decide) z_g48_11 (by decide) ?_
      refine z_aln (c := 4294967376) rfl (by decide) ?_
      refine z_gf (j := 48) (v := 0) rfl (show 48 < 96 by decide) (zhl N) (zh48 N) (by decide) z_g48_34 (by decide) ?_
      refine z_ia (j := 51) (m := 0) (v := 4) rfl (show 51 < 96 by decide) (zhl N) (zh51 N) (by decide) z_g51 ?_
      refine z_rem (a := e) (b := 4) (v := e % 4) (by omega) (by decide) (by decide) rfl ?_
      refine z_sub (a := c % 4) (b := e % 4) (v := c % 4 - e % 4) (by omega : c % 4 ≤ 4294967295) (by omega : e % 4 ≤ 4294967295) (by omega) ?_
      refine z_isn (show 3 < 5 by decide) (by omega : c % 4 - e % 4 ≤ 4294967295) ?_
      refine z_iln (c := c) rfl (by omega : c ≤ 4294967295) ?_
      refine z_aln (c := 4294967376) rfl (by decide) ?_
      refine z_gf (j := 48) (v := 4294967379) rfl (show 48 < 96 by decide) (zhl N) (zh48 N) (by decide) z_g48_11 (by decide) ?_
      refine z_aln (c := 4294967376) rfl (by decide) ?_
      refine z_gf (j := 48) (v := 0) rfl (show 48 < 96 by decide) (zhl N) (zh48 N) (by decide) z_g48_34 (by decide) ?_
      refine z_ia (j := 51) (m := 0) (v := 4) rfl (show 51 < 96 by decide) (zhl N) (zh51 N) (by decide) z_g51 ?_
      refine z_div (a := c) (b := 4) (v := c / 4) (by omega) (by decide) (by decide) rfl ?_
      refine z_iln (c := e) rfl (by omega : e ≤ 4294967295) ?_
      refine z_aln (c := 4294967376) rfl (by decide) ?_
      refine z_gf (j := 48) (v := 4294967379) rfl (show 48 < 96 by decide) (zhl N) (zh48 N) (by decide) z_g48_11 (by decide) ?_
      refine z_aln (c := 4294967376) rfl (by decide) ?_
      refine z_gf (j := 48) (v := 0) rfl (show 48 < 96 by decide) (zhl N) (zh48 N) (by decide) z_g48_34 (by decide) ?_
      refine z_ia (j := 51) (m := 0) (v := 4) rfl (show 51 < 96 by decide) (zhl N) (zh51 N) (by decide) z_g51 ?_
      refine z_div (a := e) (b := 4) (v := e / 4) (by omega) (by decide) (by decide) rfl ?_
      refine z_sub (a := c / 4) (b := e / 4) (v := 4294967296 - (e / 4 - c / 4)) (by omega : c / 4 ≤ 4294967295) (by omega : e / 4 ≤ 4294967295) (by omega) ?_
      refine z_is (show 4 < 5 by decide) (by omega : 4294967296 - (e / 4 - c / 4) ≤ 4294967295) ?_
      refine z_iln (c := c % 4 - e % 4) rfl (by omega : c % 4 - e % 4 ≤ 4294967295) ?_
      refine z_cT (z_geT (by omega) (by decide) (Nat.zero_le _)) j2_58 ?_
      refine z_iln (c := c % 4 - e % 4) rfl (by omega : c % 4 - e % 4 ≤ 4294967295) ?_
      refine z_il (c := 4294967296 - (e / 4 - c / 4)) rfl (by omega : 4294967296 - (e / 4 - c / 4) ≤ 4294967295) ?_
      refine z_cF (z_geN (by omega) (by omega)) ?_
      refine z_il (c := 4294967296 - (e / 4 - c / 4)) rfl (by omega : 4294967296 - (e / 4 - c / 4) ≤ 4294967295) ?_
      refine z_neg (a := 4294967296 - (e / 4 - c / 4)) (v := e / 4 - c / 4) (by omega : 4294967296 - (e / 4 - c / 4) ≤ 4294967295) (by omega) ?_
      refine z_go j2_72 ?_
      refine z_add (a := c % 4 - e % 4) (b := e / 4 - c / 4) (v := z_sb c e) (by unfold z_sb; omega) (by unfold z_sb; omega) ?_
      exact z_ir rfl (by unfold z_sb; omega)
  · by_cases h2 : e / 4 ≤ c / 4
    · skip
      refine z_iln (c := c) rfl (by omega : c ≤ 4294967295) ?_
      refine z_aln (c := 4294967376) rfl (by decide) ?_
      refine z_gf (j := 48) (v := 4294967379) rfl (show 48 < 96 by decide) (zhl N) (zh48 N) (by decide) z_g48_11 (by decide) ?_
      refine z_aln (c := 4294967376) rfl (by decide) ?_
      refine z_gf (j := 48) (v := 0) rfl (show 48 < 96 by decide) (zhl N) (zh48 N) (by decide) z_g48_34 (by decide) ?_
      refine z_ia (j := 51) (m := 0) (v := 4) rfl (show 51 < 96 by decide) (zhl N) (zh51 N) (by decide) z_g51 ?_
      refine z_rem (a := c) (b := 4) (v := c % 4) (by omega) (by decide) (by decide) rfl ?_
      refine z_iln (c := e) rfl (by omega : e ≤ 4294967295) ?_
      refine z_aln (c := 4294967376) rfl (by decide) ?_
      refine z_gf (j := 48) (v := 4294967379) rfl (show 48 < 96 by decide) (zhl N) (zh48 N) (by decide) z_g48_11 (by decide) ?_
      refine z_aln (c := 4294967376) rfl (by decide) ?_
      refine z_gf (j := 48) (v := 0) rfl (show 48 < 96 by decide) (zhl N) (zh48 N) (by decide) z_g48_34 (by decide) ?_
      refine z_ia (j := 51) (m := 0) (v := 4) rfl (show 51 < 96 by decide) (zhl N) (zh51 N) (by decide) z_g51 ?_
      refine z_rem (a := e) (b := 4) (v := e % 4) (by omega) (by decide) (by decide) rfl ?_
      refine z_sub (a := c % 4) (b := e % 4) (v := 4294967296 - (e % 4 - c % 4)) (by omega : c % 4 ≤ 4294967295) (by omega : e % 4 ≤ 4294967295) (by omega) ?_
      refine z_isn (show 3 < 5 by decide) (by omega : 4294967296 - (e % 4 - c % 4) ≤ 4294967295) ?_
      refine z_iln (c := c) rfl (by omega : c ≤ 4294967295) ?_
      refine z_aln (c := 4294967376) rfl (by decide) ?_
      refine z_gf (j := 48) (v := 4294967379) rfl (show 48 < 96 by decide) (zhl N) (zh48 N) (by decide) z_g48_11 (by decide) ?_
      refine z_aln (c := 4294967376) rfl (by decide) ?_
      refine z_gf (j := 48) (v := 0) rfl (show 48 < 96 by decide) (zhl N) (zh48 N) (by decide) z_g48_34 (by decide) ?_
      refine z_ia (j := 51) (m := 0) (v := 4) rfl (show 51 < 96 by decide) (zhl N) (zh51 N) (by decide) z_g51 ?_
      refine z_div (a := c) (b := 4) (v := c / 4) (by omega) (by decide) (by decide) rfl ?_
      refine z_iln (c := e) rfl (by omega : e ≤ 4294967295) ?_
      refine z_aln (c := 4294967376) rfl (by decide) ?_
      refine z_gf (j := 48) (v := 4294967379) rfl (show 48 < 96 by decide) (zhl N) (zh48 N) (by decide) z_g48_11 (by decide) ?_
      refine z_aln (c := 4294967376) rfl (by decide) ?_
      refine z_gf (j := 48) (v := 0) rfl (show 48 < 96 by decide) (zhl N) (zh48 N) (by decide) z_g48_34 (by decide) ?_
      refine z_ia (j := 51) (m := 0) (v := 4) rfl (show 51 < 96 by decide) (zhl N) (zh51 N) (by decide) z_g51 ?_
      refine z_div (a := e) (b := 4) (v := e / 4) (by omega) (by decide) (by decide) rfl ?_
      refine z_sub (a := c / 4) (b := e / 4) (v := c / 4 - e / 4) (by omega : c / 4 ≤ 4294967295) (by omega : e / 4 ≤ 4294967295) (by omega) ?_
      refine z_is (show 4 < 5 by decide) (by omega : c / 4 - e / 4 ≤ 4294967295) ?_
      refine z_iln (c := 4294967296 - (e % 4 - c % 4)) rfl (by omega : 4294967296 - (e % 4 - c % 4) ≤ 4294967295) ?_
      refine z_cF (z_geN (by omega) (by omega)) ?_
      refine z_iln (c := 4294967296 - (e % 4 - c % 4)) rfl (by omega : 4294967296 - (e % 4 - c % 4) ≤ 4294967295) ?_
      refine z_neg (a := 4294967296 - (e % 4 - c % 4)) (v := e % 4 - c % 4) (by omega : 4294967296 - (e % 4 - c % 4) ≤ 4294967295) (by omega) ?_
      refine z_go j2_59 ?_
      refine z_il (c := c / 4 - e / 4) rfl (by omega : c / 4 - e / 4 ≤ 4294967295) ?_
      refine z_cT (z_geT (by omega) (by decide) (Nat.zero_le _)) j2_70 ?_
      refine z_il (c := c / 4 - e / 4) rfl (by omega : c / 4 - e / 4 ≤ 4294967295) ?_
      refine z_add (a := e % 4 - c % 4) (b := c / 4 - e / 4) (v := z_sb c e) (by unfold z_sb; omega) (by unfold z_sb; omega) ?_
      exact z_ir rfl (by unfold z_sb; omega)
    · skip
      refine z_iln (c := c) rfl (by omega : c ≤ 4294967295) ?_
      refine z_aln (c := 4294967376) rfl (by decide) ?_
      refine z_gf (j := 48) (v := 4294967379) rfl (show 48 < 96 by decide) (zhl N) (zh48 N) (by decide) z_g48_11 (by decide) ?_
      refine z_aln (c := 4294967376) rfl (by decide) ?_
      refine z_gf (j := 48) (v := 0) rfl (show 48 < 96 by decide) (zhl N) (zh48 N) (by decide) z_g48_34 (by decide) ?_
      refine z_ia (j := 51) (m := 0) (v := 4) rfl (show 51 < 96 by decide) (zhl N) (zh51 N) (by decide) z_g51 ?_
      refine z_rem (a := c) (b := 4) (v := c % 4) (by omega) (by decide) (by decide) rfl ?_
      refine z_iln (c := e) rfl (by omega : e ≤ 4294967295) ?_
      refine z_aln (c := 4294967376) rfl (by decide) ?_
      refine z_gf (j := 48) (v := 4294967379) rfl (show 48 < 96 by decide) (zhl N) (zh48 N) (by decide) z_g48_11 (by decide) ?_
      refine z_aln (c := 4294967376) rfl (by decide) ?_
      refine z_gf (j := 48) (v := 0) rfl (show 48 < 96 by decide) (zhl N) (zh48 N) (by decide) z_g48_34 (by decide) ?_
      refine z_ia (j := 51) (m := 0) (v := 4) rfl (show 51 < 96 by decide) (zhl N) (zh51 N) (by decide) z_g51 ?_
      refine z_rem (a := e) (b := 4) (v := e % 4) (by omega) (by decide) (by decide) rfl ?_
      refine z_sub (a := c % 4) (b := e % 4) (v := 4294967296 - (e % 4 - c % 4)) (by omega : c % 4 ≤ 4294967295) (by omega : e % 4 ≤ 4294967295) (by omega) ?_
      refine z_isn (show 3 < 5 by decide) (by omega : 4294967296 - (e % 4 - c % 4) ≤ 4294967295) ?_
      refine z_iln (c := c) rfl (by omega : c ≤ 4294967295) ?_
      refine z_aln (c := 4294967376) rfl (by decide) ?_
      refine z_gf (j := 48) (v := 4294967379) rfl (show 48 < 96 by decide) (zhl N) (zh48 N) (by decide) z_g48_11 (by decide) ?_
      refine z_aln (c := 4294967376) rfl (by decide) ?_
      refine z_gf (j := 48) (v := 0) rfl (show 48 < 96 by decide) (zhl N) (zh48 N) (by decide) z_g48_34 (by decide) ?_
      refine z_ia (j := 51) (m := 0) (v := 4) rfl (show 51 < 96 by decide) (zhl N) (zh51 N) (by decide) z_g51 ?_
      refine z_div (a := c) (b := 4) (v := c / 4) (by omega) (by decide) (by decide) rfl ?_
      refine z_iln (c := e) rfl (by omega : e ≤ 4294967295) ?_
      refine z_aln (c := 4294967376) rfl (by decide) ?_
      refine z_gf (j := 48) (v := 4294967379) rfl (show 48 < 96 by decide) (zhl N) (zh48 N) (by decide) z_g48_11 (by decide) ?_
      refine z_aln (c := 4294967376) rfl (by decide) ?_
      refine z_gf (j := 48) (v := 0) rfl (show 48 < 96 by decide) (zhl N) (zh48 N) (by decide) z_g48_34 (by decide) ?_
      refine z_ia (j := 51) (m := 0) (v := 4) rfl (show 51 < 96 by decide) (zhl N) (zh51 N) (by decide) z_g51 ?_
      refine z_div (a := e) (b := 4) (v := e / 4) (by omega) (by decide) (by decide) rfl ?_
      refine z_sub (a := c / 4) (b := e / 4) (v := 4294967296 - (e / 4 - c / 4)) (by omega : c / 4 ≤ 4294967295) (by omega : e / 4 ≤ 4294967295) (by omega) ?_
      refine z_is (show 4 < 5 by decide) (by omega : 4294967296 - (e / 4 - c / 4) ≤ 4294967295) ?_
      refine z_iln (c := 4294967296 - (e % 4 - c % 4)) rfl (by omega : 4294967296 - (e % 4 - c % 4) ≤ 4294967295) ?_
      refine z_cF (z_geN (by omega) (by omega)) ?_
      refine z_iln (c := 4294967296 - (e % 4 - c % 4)) rfl (by omega : 4294967296 - (e % 4 - c % 4) ≤ 4294967295) ?_
      refine z_neg (a := 4294967296 - (e % 4 - c % 4)) (v := e % 4 - c % 4) (by omega : 4294967296 - (e % 4 - c % 4) ≤ 4294967295) (by omega) ?_
      refine z_go j2_59 ?_
      refine z_il (c := 4294967296 - (e / 4 - c / 4)) rfl (by omega : 4294967296 - (e / 4 - c / 4) ≤ 4294967295) ?_
      refine z_cF (z_geN (by omega) (by omega)) ?_
      refine z_il (c := 4294967296 - (e / 4 - c / 4)) rfl (by omega : 4294967296 - (e / 4 - c / 4) ≤ 4294967295) ?_
      refine z_neg (a := 4294967296 - (e / 4 - c / 4)) (v := e / 4 - c / 4) (by omega : 4294967296 - (e / 4 - c / 4) ≤ 4294967295) (by omega) ?_
      refine z_go j2_72 ?_
      refine z_add (a := e % 4 - c % 4) (b := e / 4 - c / 4) (v := z_sb c e) (by unfold z_sb; omega) (by unfold z_sb; omega) ?_
      exact z_ir rfl (by unfold z_sb; omega)
noncomputable def z_wf (n : Nat) : Nat → Nat → Nat := Nat.rec (fun _ M => M) (fun _ ih k M => q_fr (Nat.succ k) (fun k' => q_fr (q_set M k 1) (fun M' => ih k' M'))) n
theorem z_wfS (n k M : Nat) : z_wf (n + 1) k M = z_wf n (k + 1) (q_set M k 1) := by
  show q_fr (Nat.succ k) (fun k' => q_fr (q_set M k 1) (fun M' => z_wf n k' M')) = _
  rw [q_fr_eq, q_fr_eq]
theorem z_wfe : z_wf 25 0 0 = z_w1 := by decide +kernel
theorem c127l {d : Nat} : ∀ (n k M : Nat), k + n = 25 → Z d 127 t127_2 [4294967377, k + 1] [] (zv M) (zv (z_wf n k M), [])
  | 0, k, M, hk => by
    show Z d 127 t127_2 [4294967377, k + 1] [] (zv M) (zv M, [])
    refine z_iln (c := k) rfl (by omega : k ≤ 4294967295) ?_
    refine z_bp ?_
    refine z_iT (z_geT (by omega) (by decide) (by omega)) j127_21 ?_
    exact z_rt
  | n + 1, k, M, hk => by
    rw [z_wfS]
    refine z_iln (c := k) rfl (by omega : k ≤ 4294967295) ?_
    refine z_bp ?_
    refine z_iF (z_geF (by omega) (by decide) (by omega)) ?_
    refine z_aln (c := 4294967376) rfl (by decide) ?_
    refine z_gf (j := 48) (v := 4294967405) rfl (show 48 < 96 by decide) (zvl M) (zv48 M) (by decide) z_g48_46 (by decide) ?_
    refine z_iln (c := k) rfl (by omega : k ≤ 4294967295) ?_
    refine z_ic ?_
    refine z_ias (j := 77) (m := k) (v := 1) (h' := zv (q_set M k 1)) rfl (show 77 < 96 by decide) (zvl M) (zv77 M) (by omega) (by decide) (zvu _ _) ?_
    refine z_ii (c := k) (v := k + 1) rfl (show 1 < 2 by decide) rfl (by omega) ?_
    refine z_go j127_2 ?_
    exact c127l n (k + 1) (q_set M k 1) (by omega)
theorem z_v0 : q_h0 = zv 0 := Prod.ext rfl (q_sm_eq 7 _ _ (by decide +kernel))
theorem z_vh : zv z_w1 = zh 0 := Prod.ext rfl (q_sm_eq 7 _ _ (by decide +kernel))
theorem c127 {d : Nat} : ZC d 127 [4294967376] q_h0 (zh 0, []) := by
  rw [← z_vh, ← z_wfe, z_v0]
  refine z_C (l := [4294967377, 0]) (z_bc (by decide) z_bn) t127 (fun j => by rcases j with _ | _ | _ | _ | _ | _ | _ | _ | _ | _ | _ | _ | j <;> rfl) ?_
  refine z_ic ?_
  refine z_isn (show 1 < 2 by decide) (by decide) ?_
  exact c127l 25 0 0 rfl
noncomputable def z_pp2 (n : Nat) : Nat → Nat → Nat := Nat.rec (fun _ a => a) (fun _ ih k a => bif Nat.beq k 0 then a else q_fr (Nat.land k (Nat.sub k 1)) (fun k' => q_fr (Nat.succ a) (fun a' => ih k' a'))) n
noncomputable def z_pop (s : Nat) : Nat := z_pp2 s s 0
theorem z_ppS (n k a : Nat) : z_pp2 (n + 1) k a = bif Nat.beq k 0 then a else z_pp2 n (k &&& (k - 1)) (a + 1) := by
  show (bif Nat.beq k 0 then a else q_fr (Nat.land k (Nat.sub k 1)) (fun k' => q_fr (Nat.succ a) (fun a' => z_pp2 n k' a'))) = _
  rw [q_fr_eq, q_fr_eq]
  rfl
theorem z_ppl : ∀ n k a, z_pp2 n k a ≤ a + n
  | 0, k, a => Nat.le_refl _
  | n + 1, k, a => by
    rw [z_ppS]
    cases Nat.beq k 0 with
    | true => exact Nat.le_add_right _ _
    | false =>
      have := z_ppl n (k &&& (k - 1)) (a + 1)
      show z_pp2 n (k &&& (k - 1)) (a + 1) ≤ _
      omega
theorem z_popl (s : Nat) : z_pop s ≤ s := by
  have := z_ppl s s 0
  unfold z_pop
  omega
theorem z_ak (k : Nat) : k &&& (k - 1) ≤ k - 1 := Nat.and_le_right
theorem c139l {d s : Nat} {h : q_H} (hs : s < 65536) : ∀ (n k a : Nat), k ≤ n → n < 65536 → a + n < 131072 → Z d 139 t139_4 [s + 1, a + 1, k + 1] [] h (h, [z_pp2 n k a])
  | 0, k, a, hk, hn, ha => by
    have e : k = 0 := by omega
    show Z d 139 t139_4 [s + 1, a + 1, k + 1] [] h (h, [a])
    refine z_iln (c := k) rfl (by omega : k ≤ 4294967295) ?_
    refine z_cT (z_eqT (by omega) e) j139_20 ?_
    refine z_iln (c := a) rfl (by omega : a ≤ 4294967295) ?_
    exact z_ir rfl (by omega : a ≤ 4294967295)
  | n + 1, k, a, hk, hn, ha => by
    rw [z_ppS]
    by_cases e : k = 0
    · rw [q_ift _ _ (q_beq.mpr e)]
      refine z_iln (c := k) rfl (by omega : k ≤ 4294967295) ?_
      refine z_cT (z_eqT (by omega) e) j139_20 ?_
      refine z_iln (c := a) rfl (by omega : a ≤ 4294967295) ?_
      exact z_ir rfl (by omega : a ≤ 4294967295)
    · rw [q_iff _ _ (q_bneq.mpr e)]
      refine z_iln (c := k) rfl (by omega : k ≤ 4294967295) ?_
      refine z_cF (z_eqF (by omega) (by decide) e) ?_
      refine z_ii (c := a) (v := a + 1) rfl (show 1 < 3 by decide) rfl (by omega) ?_
      refine z_iln (c := k) rfl (by omega : k ≤ 4294967295) ?_
      refine z_iln (c := k) rfl (by omega : k ≤ 4294967295) ?_
      refine z_ic ?_
      refine z_sub (a := k) (b := 1) (v := k - 1) (by omega : k ≤ 4294967295) (by decide) (by omega) ?_
      refine z_and (a := k) (b := k - 1) (v := k &&& (k - 1)) (by omega : k ≤ 4294967295) (by omega : k - 1 ≤ 4294967295) rfl ?_
      refine z_isn (show 2 < 3 by decide) (z_anl (by omega)) ?_
      refine z_go j139_4 ?_
      exact c139l hs n (k &&& (k - 1)) (a + 1) (by have := z_ak k; omega) (by omega) (by omega)
theorem c139 {d s : Nat} {h : q_H} (hs : s < 65536) : ZC d 139 [s] h (h, [z_pop s]) := by
  refine z_C (l := [s + 1, 0, 0]) (z_bc (z_em (by omega : s ≤ 4294967295)) z_bn) t139 (fun j => by rcases j with _ | _ | _ | _ | _ | _ | _ | _ | _ | _ | _ | _ | j <;> rfl) ?_
  refine z_ic ?_
  refine z_isn (show 1 < 3 by decide) (by decide) ?_
  refine z_iln (c := s) rfl (by omega : s ≤ 4294967295) ?_
  refine z_isn (show 2 < 3 by decide) (by omega : s ≤ 4294967295) ?_
  exact c139l hs s s 0 (Nat.le_refl _) hs (by omega)
