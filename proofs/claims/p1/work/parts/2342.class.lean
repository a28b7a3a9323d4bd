/-! ===== guard, the class: spread, flood, guardsOf on the fresh ground (printed by wip/p1/zclass.py) ===== -/
def t3_13 : List q_I := (13, 1, .ireturn, 1, 0, 0) :: []
def t3_12 : List q_I := (12, 1, .iconst 0, 0, 0, 0) :: t3_13
def t3_9 : List q_I := (9, 3, .goto 4, 13, 0, 0) :: t3_12
def t3_8 : List q_I := (8, 1, .iconst 1, 1, 0, 0) :: t3_9
def t3_5 : List q_I := (5, 3, .ifCond .eq 7, 12, 0, 0) :: t3_8
def t3_4 : List q_I := (4, 1, .iand, 0, 0, 0) :: t3_5
def t3_3 : List q_I := (3, 1, .iconst 1, 1, 0, 0) :: t3_4
def t3_2 : List q_I := (2, 1, .ishr, 0, 0, 0) :: t3_3
def t3_1 : List q_I := (1, 1, .iload_n 1, 1, 0, 0) :: t3_2
def t3_0 : List q_I := (0, 1, .iload_n 0, 0, 0, 0) :: t3_1
theorem t3 : q_code 3 = t3_0 := rfl
theorem j3_12 : q_jm (q_code 3) 12 = t3_12 := rfl
theorem j3_13 : q_jm (q_code 3) 13 = t3_13 := rfl
def t16_3 : List q_I := (3, 1, .ireturn, 0, 0, 0) :: []
def t16_2 : List q_I := (2, 1, .ishl, 0, 0, 0) :: t16_3
def t16_1 : List q_I := (1, 1, .iload_n 0, 0, 0, 0) :: t16_2
def t16_0 : List q_I := (0, 1, .iconst 1, 1, 0, 0) :: t16_1
theorem t16 : q_code 16 = t16_0 := rfl
def t26_46 : List q_I := (46, 1, .ireturn, 0, 0, 0) :: []
def t26_45 : List q_I := (45, 1, .iand, 0, 0, 0) :: t26_46
def t26_42 : List q_I := (42, 3, .getfield 34, 3, 7, 0) :: t26_45
def t26_41 : List q_I := (41, 1, .aload_n 0, 0, 0, 0) :: t26_42
def t26_40 : List q_I := (40, 1, .ior, 0, 0, 0) :: t26_41
def t26_39 : List q_I := (39, 1, .iload_n 3, 3, 0, 0) :: t26_40
def t26_38 : List q_I := (38, 1, .ior, 0, 0, 0) :: t26_39
def t26_37 : List q_I := (37, 1, .iload_n 2, 2, 0, 0) :: t26_38
def t26_36 : List q_I := (36, 1, .iload_n 1, 1, 0, 0) :: t26_37
def t26_35 : List q_I := (35, 1, .istore_n 3, 3, 0, 0) :: t26_36
def t26_34 : List q_I := (34, 1, .ior, 0, 0, 0) :: t26_35
def t26_33 : List q_I := (33, 1, .iushr, 0, 0, 0) :: t26_34
def t26_30 : List q_I := (30, 3, .getfield 21, 3, 3, 0) :: t26_33
def t26_29 : List q_I := (29, 1, .aload_n 0, 0, 0, 0) :: t26_30
def t26_28 : List q_I := (28, 1, .iload_n 1, 1, 0, 0) :: t26_29
def t26_27 : List q_I := (27, 1, .ishl, 0, 0, 0) :: t26_28
def t26_24 : List q_I := (24, 3, .getfield 21, 3, 3, 0) :: t26_27
def t26_23 : List q_I := (23, 1, .aload_n 0, 0, 0, 0) :: t26_24
def t26_22 : List q_I := (22, 1, .iload_n 1, 1, 0, 0) :: t26_23
def t26_21 : List q_I := (21, 1, .istore_n 2, 2, 0, 0) :: t26_22
def t26_20 : List q_I := (20, 1, .ior, 0, 0, 0) :: t26_21
def t26_19 : List q_I := (19, 1, .iushr, 0, 0, 0) :: t26_20
def t26_18 : List q_I := (18, 1, .iconst 1, 1, 0, 0) :: t26_19
def t26_17 : List q_I := (17, 1, .iand, 0, 0, 0) :: t26_18
def t26_16 : List q_I := (16, 1, .ixor, 0, 0, 0) :: t26_17
def t26_15 : List q_I := (15, 1, .iconst (-1), 4294967295, 0, 0) :: t26_16
def t26_12 : List q_I := (12, 3, .getfield 37, 3, 8, 0) :: t26_15
def t26_11 : List q_I := (11, 1, .aload_n 0, 0, 0, 0) :: t26_12
def t26_10 : List q_I := (10, 1, .iload_n 1, 1, 0, 0) :: t26_11
def t26_9 : List q_I := (9, 1, .ishl, 0, 0, 0) :: t26_10
def t26_8 : List q_I := (8, 1, .iconst 1, 1, 0, 0) :: t26_9
def t26_7 : List q_I := (7, 1, .iand, 0, 0, 0) :: t26_8
def t26_6 : List q_I := (6, 1, .ixor, 0, 0, 0) :: t26_7
def t26_5 : List q_I := (5, 1, .iconst (-1), 4294967295, 0, 0) :: t26_6
def t26_2 : List q_I := (2, 3, .getfield 40, 3, 9, 0) :: t26_5
def t26_1 : List q_I := (1, 1, .aload_n 0, 0, 0, 0) :: t26_2
def t26_0 : List q_I := (0, 1, .iload_n 1, 1, 0, 0) :: t26_1
theorem t26 : q_code 26 = t26_0 := rfl
def t176_65 : List q_I := (65, 1, .ireturn, 0, 0, 0) :: []
def t176_64 : List q_I := (64, 1, .iconst 0, 0, 0, 0) :: t176_65
def t176_61 : List q_I := (61, 3, .goto 4, 65, 0, 0) :: t176_64
def t176_59 : List q_I := (59, 2, .iload 4, 4, 0, 0) :: t176_61
def t176_56 : List q_I := (56, 3, .ifCond .ne 8, 64, 0, 0) :: t176_59
def t176_55 : List q_I := (55, 1, .iand, 0, 0, 0) :: t176_56
def t176_54 : List q_I := (54, 1, .iload_n 3, 3, 0, 0) :: t176_55
def t176_52 : List q_I := (52, 2, .iload 4, 4, 0, 0) :: t176_54
def t176_49 : List q_I := (49, 3, .goto (-41), 8, 0, 0) :: t176_52
def t176_46 : List q_I := (46, 3, .iinc 5 1, 5, 1, 0) :: t176_49
def t176_44 : List q_I := (44, 2, .istore 4, 4, 0, 0) :: t176_46
def t176_42 : List q_I := (42, 2, .iload 6, 6, 0, 0) :: t176_44
def t176_41 : List q_I := (41, 1, .ireturn, 0, 0, 0) :: t176_42
def t176_39 : List q_I := (39, 2, .iload 4, 4, 0, 0) :: t176_41
def t176_36 : List q_I := (36, 3, .if_icmp .ne 6, 42, 0, 0) :: t176_39
def t176_34 : List q_I := (34, 2, .iload 4, 4, 0, 0) :: t176_36
def t176_32 : List q_I := (32, 2, .iload 6, 6, 0, 0) :: t176_34
def t176_30 : List q_I := (30, 2, .istore 6, 6, 0, 0) :: t176_32
def t176_29 : List q_I := (29, 1, .iand, 0, 0, 0) :: t176_30
def t176_28 : List q_I := (28, 1, .iload_n 2, 2, 0, 0) :: t176_29
def t176_25 : List q_I := (25, 3, .invokevirtual 57, 26, 2, 3) :: t176_28
def t176_23 : List q_I := (23, 2, .iload 4, 4, 0, 0) :: t176_25
def t176_22 : List q_I := (22, 1, .aload_n 0, 0, 0, 0) :: t176_23
def t176_19 : List q_I := (19, 3, .ifCond .ne 33, 52, 0, 0) :: t176_22
def t176_18 : List q_I := (18, 1, .iand, 0, 0, 0) :: t176_19
def t176_17 : List q_I := (17, 1, .iload_n 3, 3, 0, 0) :: t176_18
def t176_15 : List q_I := (15, 2, .iload 4, 4, 0, 0) :: t176_17
def t176_12 : List q_I := (12, 3, .if_icmp .ge 40, 52, 0, 0) :: t176_15
def t176_10 : List q_I := (10, 2, .bipush 25, 25, 0, 0) :: t176_12
def t176_8 : List q_I := (8, 2, .iload 5, 5, 0, 0) :: t176_10
def t176_6 : List q_I := (6, 2, .istore 5, 5, 0, 0) :: t176_8
def t176_5 : List q_I := (5, 1, .iconst 0, 0, 0, 0) :: t176_6
def t176_3 : List q_I := (3, 2, .istore 4, 4, 0, 0) :: t176_5
def t176_2 : List q_I := (2, 1, .iand, 0, 0, 0) :: t176_3
def t176_1 : List q_I := (1, 1, .iload_n 2, 2, 0, 0) :: t176_2
def t176_0 : List q_I := (0, 1, .iload_n 1, 1, 0, 0) :: t176_1
theorem t176 : q_code 176 = t176_0 := rfl
theorem j176_8 : q_jm (q_code 176) 8 = t176_8 := rfl
theorem j176_42 : q_jm (q_code 176) 42 = t176_42 := rfl
theorem j176_52 : q_jm (q_code 176) 52 = t176_52 := rfl
theorem j176_64 : q_jm (q_code 176) 64 = t176_64 := rfl
theorem j176_65 : q_jm (q_code 176) 65 = t176_65 := rfl
def t191_110 : List q_I := (110, 1, .ireturn, 0, 0, 0) :: []
def t191_109 : List q_I := (109, 1, .iconst (-1), 4294967295, 0, 0) :: t191_110
def t191_106 : List q_I := (106, 3, .goto (-66), 40, 0, 0) :: t191_109
def t191_103 : List q_I := (103, 3, .iinc 6 1, 6, 1, 0) :: t191_106
def t191_102 : List q_I := (102, 1, .ireturn, 0, 0, 0) :: t191_103
def t191_100 : List q_I := (100, 2, .iload 7, 7, 0, 0) :: t191_102
def t191_97 : List q_I := (97, 3, .if_icmp .eq 6, 103, 0, 0) :: t191_100
def t191_96 : List q_I := (96, 1, .iconst (-1), 4294967295, 0, 0) :: t191_97
def t191_94 : List q_I := (94, 2, .iload 7, 7, 0, 0) :: t191_96
def t191_92 : List q_I := (92, 2, .istore 7, 7, 0, 0) :: t191_94
def t191_89 : List q_I := (89, 3, .invokevirtual 64, 191, 6, 3) :: t191_92
def t191_87 : List q_I := (87, 2, .iload 5, 5, 0, 0) :: t191_89
def t191_85 : List q_I := (85, 2, .iload 4, 4, 0, 0) :: t191_87
def t191_84 : List q_I := (84, 1, .ior, 0, 0, 0) :: t191_85
def t191_81 : List q_I := (81, 3, .invokestatic 49, 16, 1, 0) :: t191_84
def t191_79 : List q_I := (79, 2, .iload 6, 6, 0, 0) :: t191_81
def t191_78 : List q_I := (78, 1, .iload_n 3, 3, 0, 0) :: t191_79
def t191_76 : List q_I := (76, 2, .iload 6, 6, 0, 0) :: t191_78
def t191_75 : List q_I := (75, 1, .isub, 0, 0, 0) :: t191_76
def t191_74 : List q_I := (74, 1, .iconst 1, 1, 0, 0) :: t191_75
def t191_73 : List q_I := (73, 1, .iload_n 1, 1, 0, 0) :: t191_74
def t191_72 : List q_I := (72, 1, .aload_n 0, 0, 0, 0) :: t191_73
def t191_69 : List q_I := (69, 3, .ifCond .eq 34, 103, 0, 0) :: t191_72
def t191_66 : List q_I := (66, 3, .invokestatic 53, 3, 2, 0) :: t191_69
def t191_64 : List q_I := (64, 2, .iload 6, 6, 0, 0) :: t191_66
def t191_61 : List q_I := (61, 3, .getfield 34, 3, 7, 0) :: t191_64
def t191_60 : List q_I := (60, 1, .aload_n 0, 0, 0, 0) :: t191_61
def t191_57 : List q_I := (57, 3, .if_icmp .eq 46, 103, 0, 0) :: t191_60
def t191_55 : List q_I := (55, 2, .iload 5, 5, 0, 0) :: t191_57
def t191_53 : List q_I := (53, 2, .iload 6, 6, 0, 0) :: t191_55
def t191_50 : List q_I := (50, 3, .if_icmp .eq 53, 103, 0, 0) :: t191_53
def t191_48 : List q_I := (48, 2, .iload 4, 4, 0, 0) :: t191_50
def t191_46 : List q_I := (46, 2, .iload 6, 6, 0, 0) :: t191_48
def t191_43 : List q_I := (43, 3, .if_icmp .ge 66, 109, 0, 0) :: t191_46
def t191_42 : List q_I := (42, 1, .iload_n 2, 2, 0, 0) :: t191_43
def t191_40 : List q_I := (40, 2, .iload 6, 6, 0, 0) :: t191_42
def t191_38 : List q_I := (38, 2, .istore 6, 6, 0, 0) :: t191_40
def t191_37 : List q_I := (37, 1, .isub, 0, 0, 0) :: t191_38
def t191_36 : List q_I := (36, 1, .iconst 1, 1, 0, 0) :: t191_37
def t191_35 : List q_I := (35, 1, .iload_n 1, 1, 0, 0) :: t191_36
def t191_34 : List q_I := (34, 1, .ireturn, 0, 0, 0) :: t191_35
def t191_33 : List q_I := (33, 1, .iload_n 3, 3, 0, 0) :: t191_34
def t191_30 : List q_I := (30, 3, .goto 4, 34, 0, 0) :: t191_33
def t191_29 : List q_I := (29, 1, .iconst (-1), 4294967295, 0, 0) :: t191_30
def t191_26 : List q_I := (26, 3, .ifCond .ne 7, 33, 0, 0) :: t191_29
def t191_23 : List q_I := (23, 3, .invokevirtual 60, 176, 4, 3) :: t191_26
def t191_20 : List q_I := (20, 3, .invokestatic 49, 16, 1, 0) :: t191_23
def t191_18 : List q_I := (18, 2, .iload 5, 5, 0, 0) :: t191_20
def t191_17 : List q_I := (17, 1, .iand, 0, 0, 0) :: t191_18
def t191_16 : List q_I := (16, 1, .ixor, 0, 0, 0) :: t191_17
def t191_15 : List q_I := (15, 1, .iconst (-1), 4294967295, 0, 0) :: t191_16
def t191_14 : List q_I := (14, 1, .iload_n 3, 3, 0, 0) :: t191_15
def t191_11 : List q_I := (11, 3, .getfield 34, 3, 7, 0) :: t191_14
def t191_10 : List q_I := (10, 1, .aload_n 0, 0, 0, 0) :: t191_11
def t191_7 : List q_I := (7, 3, .invokestatic 49, 16, 1, 0) :: t191_10
def t191_5 : List q_I := (5, 2, .iload 4, 4, 0, 0) :: t191_7
def t191_4 : List q_I := (4, 1, .aload_n 0, 0, 0, 0) :: t191_5
def t191_1 : List q_I := (1, 3, .ifCond .gt 34, 35, 0, 0) :: t191_4
def t191_0 : List q_I := (0, 1, .iload_n 1, 1, 0, 0) :: t191_1
theorem t191 : q_code 191 = t191_0 := rfl
theorem j191_33 : q_jm (q_code 191) 33 = t191_33 := rfl
theorem j191_34 : q_jm (q_code 191) 34 = t191_34 := rfl
theorem j191_35 : q_jm (q_code 191) 35 = t191_35 := rfl
theorem j191_40 : q_jm (q_code 191) 40 = t191_40 := rfl
theorem j191_103 : q_jm (q_code 191) 103 = t191_103 := rfl
theorem j191_109 : q_jm (q_code 191) 109 = t191_109 := rfl
def z_n20 : Nat := 0x222200000111100003fffc0000ffff00000004000000004000000011000000374000000d900000035
theorem z_t20 : q_tg 7 q_h0.2 20 = (6, 10, z_n20) := by decide +kernel
theorem z_hh0 : q_h0.1 ≤ 128 := by decide
theorem z_g20_3 : q_get z_n20 3 = 4 := by decide +kernel
theorem z_g20_4 : q_get z_n20 4 = 4 := by decide +kernel
theorem z_g20_5 : q_get z_n20 5 = 16 := by decide +kernel
theorem z_g20_6 : q_get z_n20 6 = 65535 := by decide +kernel
theorem z_g20_7 : q_get z_n20 7 = 65535 := by decide +kernel
theorem z_g20_8 : q_get z_n20 8 = 4369 := by decide +kernel
theorem z_g20_9 : q_get z_n20 9 = 34952 := by decide +kernel
def z_spr (s : Nat) : Nat := Nat.land (Nat.lor (Nat.lor s (Nat.lor (q_w (Nat.shiftLeft (Nat.land s (Nat.xor 34952 4294967295)) 1)) (Nat.shiftRight (Nat.land s (Nat.xor 4369 4294967295)) 1))) (Nat.lor (q_w (Nat.shiftLeft s 4)) (Nat.shiftRight s 4))) 65535
noncomputable def z_fl (w t n : Nat) : Nat → Nat := Nat.rec (fun r => bif Nat.beq (Nat.land r t) 0 then r else 0) (fun _ ih r => bif Nat.beq (Nat.land r t) 0 then q_fr (Nat.land (z_spr r) w) (fun x => bif Nat.beq x r then r else ih x) else 0) n
theorem c26 {d s : Nat} (hs : s ≤ 4294967295) : ZC d 26 [4294967348, s] q_h0 (q_h0, [z_spr s]) := by
  refine z_C (l := [4294967349, s + 1, 0, 0]) (z_bc (by decide) (z_bc (z_em hs) z_bn)) t26 (fun j => by rcases j with _ | _ | _ | _ | _ | _ | _ | _ | _ | _ | _ | _ | j <;> rfl) ?_
  refine z_iln (c := s) rfl hs ?_
  refine z_aln (c := 4294967348) rfl (by decide) ?_
  refine z_gf (j := 20) (v := 34952) rfl (show 20 < 96 by decide) z_hh0 z_t20 (by decide) z_g20_9 (by decide) ?_
  refine z_ic ?_
  refine z_xor (a := 34952) (b := 4294967295) (v := 34952 ^^^ 4294967295) (by decide) (by decide) rfl ?_
  refine z_and (a := s) (b := 34952 ^^^ 4294967295) (v := s &&& (34952 ^^^ 4294967295)) hs (z_xol (by decide) (by decide)) rfl ?_
  refine z_ic ?_
  refine z_shl (a := s &&& (34952 ^^^ 4294967295)) (b := 1) (z_anl hs) (by decide) ?_
  refine z_iln (c := s) rfl hs ?_
  refine z_aln (c := 4294967348) rfl (by decide) ?_
  refine z_gf (j := 20) (v := 4369) rfl (show 20 < 96 by decide) z_hh0 z_t20 (by decide) z_g20_8 (by decide) ?_
  refine z_ic ?_
  refine z_xor (a := 4369) (b := 4294967295) (v := 4369 ^^^ 4294967295) (by decide) (by decide) rfl ?_
  refine z_and (a := s) (b := 4369 ^^^ 4294967295) (v := s &&& (4369 ^^^ 4294967295)) hs (z_xol (by decide) (by decide)) rfl ?_
  refine z_ic ?_
  refine z_ushr (a := s &&& (4369 ^^^ 4294967295)) (b := 1) (z_anl hs) (by decide) ?_
  refine z_or (a := q_w ((s &&& (34952 ^^^ 4294967295)) <<< 1)) (b := (s &&& (4369 ^^^ 4294967295)) >>> 1) (v := (q_w ((s &&& (34952 ^^^ 4294967295)) <<< 1)) ||| ((s &&& (4369 ^^^ 4294967295)) >>> 1)) (q_w_le _) (z_shl' (z_anl hs)) rfl ?_
  refine z_isn (show 2 < 4 by decide) (z_orl (q_w_le _) (z_shl' (z_anl hs))) ?_
  refine z_iln (c := s) rfl hs ?_
  refine z_aln (c := 4294967348) rfl (by decide) ?_
  refine z_gf (j := 20) (v := 4) rfl (show 20 < 96 by decide) z_hh0 z_t20 (by decide) z_g20_3 (by decide) ?_
  refine z_shl (a := s) (b := 4) hs (by decide) ?_
  refine z_iln (c := s) rfl hs ?_
  refine z_aln (c := 4294967348) rfl (by decide) ?_
  refine z_gf (j := 20) (v := 4) rfl (show 20 < 96 by decide) z_hh0 z_t20 (by decide) z_g20_3 (by decide) ?_
  refine z_ushr (a := s) (b := 4) hs (by decide) ?_
  refine z_or (a := q_w (s <<< 4)) (b := s >>> 4) (v := (q_w (s <<< 4)) ||| (s >>> 4)) (q_w_le _) (z_shl' hs) rfl ?_
  refine z_isn (show 3 < 4 by decide) (z_orl (q_w_le _) (z_shl' hs)) ?_
  refine z_iln (c := s) rfl hs ?_
  refine z_iln (c := (q_w ((s &&& (34952 ^^^ 4294967295)) <<< 1)) ||| ((s &&& (4369 ^^^ 4294967295)) >>> 1)) rfl (z_orl (q_w_le _) (z_shl' (z_anl hs))) ?_
  refine z_or (a := s) (b := (q_w ((s &&& (34952 ^^^ 4294967295)) <<< 1)) ||| ((s &&& (4369 ^^^ 4294967295)) >>> 1)) (v := s ||| ((q_w ((s &&& (34952 ^^^ 4294967295)) <<< 1)) ||| ((s &&& (4369 ^^^ 4294967295)) >>> 1))) hs (z_orl (q_w_le _) (z_shl' (z_anl hs))) rfl ?_
  refine z_iln (c := (q_w (s <<< 4)) ||| (s >>> 4)) rfl (z_orl (q_w_le _) (z_shl' hs)) ?_
  refine z_or (a := s ||| ((q_w ((s &&& (34952 ^^^ 4294967295)) <<< 1)) ||| ((s &&& (4369 ^^^ 4294967295)) >>> 1))) (b := (q_w (s <<< 4)) ||| (s >>> 4)) (v := (s ||| ((q_w ((s &&& (34952 ^^^ 4294967295)) <<< 1)) ||| ((s &&& (4369 ^^^ 4294967295)) >>> 1))) ||| ((q_w (s <<< 4)) ||| (s >>> 4))) (z_orl hs (z_orl (q_w_le _) (z_shl' (z_anl hs)))) (z_orl (q_w_le _) (z_shl' hs)) rfl ?_
  refine z_aln (c := 4294967348) rfl (by decide) ?_
  refine z_gf (j := 20) (v := 65535) rfl (show 20 < 96 by decide) z_hh0 z_t20 (by decide) z_g20_7 (by decide) ?_
  refine z_and (a := (s ||| ((q_w ((s &&& (34952 ^^^ 4294967295)) <<< 1)) ||| ((s &&& (4369 ^^^ 4294967295)) >>> 1))) ||| ((q_w (s <<< 4)) ||| (s >>> 4))) (b := 65535) (v := ((s ||| ((q_w ((s &&& (34952 ^^^ 4294967295)) <<< 1)) ||| ((s &&& (4369 ^^^ 4294967295)) >>> 1))) ||| ((q_w (s <<< 4)) ||| (s >>> 4))) &&& 65535) (z_orl (z_orl hs (z_orl (q_w_le _) (z_shl' (z_anl hs)))) (z_orl (q_w_le _) (z_shl' hs))) (by decide) rfl ?_
  exact z_ir rfl (z_anl (z_orl (z_orl hs (z_orl (q_w_le _) (z_shl' (z_anl hs)))) (z_orl (q_w_le _) (z_shl' hs))))
theorem c16 {d k : Nat} {h : q_H} (hk : k < 32) : ZC d 16 [k] h (h, [q_w (1 <<< k)]) := by
  refine z_C (l := [k + 1]) (z_bc (z_em (by omega : k ≤ 4294967295)) z_bn) t16 (fun j => by rcases j with _ | _ | _ | _ | _ | _ | _ | _ | _ | _ | _ | _ | j <;> rfl) ?_
  refine z_ic ?_
  refine z_iln (c := k) rfl (by omega : k ≤ 4294967295) ?_
  refine z_shl (a := 1) (b := k) (by decide) hk ?_
  exact z_ir rfl (q_w_le _)
theorem z_65 : ∀ k, k < 16 → (65535 >>> k) &&& 1 = 1 := by decide
theorem c3 {d k : Nat} {h : q_H} (hk : k < 16) : ZC d 3 [65535, k] h (h, [1]) := by
  refine z_C (l := [65536, k + 1]) (z_bc (z_em (by decide)) (z_bc (z_em (by omega : k ≤ 4294967295)) z_bn)) t3 (fun j => by rcases j with _ | _ | _ | _ | _ | _ | _ | _ | _ | _ | _ | _ | j <;> rfl) ?_
  refine z_iln (c := 65535) rfl (by decide) ?_
  refine z_iln (c := k) rfl (by omega : k ≤ 4294967295) ?_
  refine z_shr (a := 65535) (b := k) (by decide) (by omega) ?_
  refine z_ic ?_
  refine z_and (a := 65535 >>> k) (b := 1) (v := (65535 >>> k) &&& 1) (z_shl' (by decide)) (by decide) rfl ?_
  refine z_cF (z_eqF (z_anl (z_shl' (by decide))) (by decide) (by rw [z_65 k hk]; decide)) ?_
  refine z_ic ?_
  refine z_go j3_13 ?_
  exact z_ir1 rfl (by decide)
theorem z_sprl (s : Nat) : z_spr s ≤ 4294967295 := Nat.le_trans (show _ &&& 65535 ≤ 65535 from Nat.and_le_right) (by decide)
theorem z_fl0 (w t r : Nat) : z_fl w t 0 r = bif Nat.beq (Nat.land r t) 0 then r else 0 := rfl
theorem z_flS (w t n r : Nat) : z_fl w t (n + 1) r = bif Nat.beq (Nat.land r t) 0 then (bif Nat.beq (Nat.land (z_spr r) w) r then r else z_fl w t n (Nat.land (z_spr r) w)) else 0 := by
  show (bif Nat.beq (Nat.land r t) 0 then q_fr (Nat.land (z_spr r) w) (fun x => bif Nat.beq x r then r else z_fl w t n x) else 0) = _
  rw [q_fr_eq]
theorem z_l0 {a b : Nat} (h : a &&& b = 0) : Nat.beq (Nat.land a b) 0 = true := q_beq.mpr h
theorem z_l1 {a b : Nat} (h : ¬ a &&& b = 0) : Nat.beq (Nat.land a b) 0 = false := q_bneq.mpr h
theorem c176l {d s w t : Nat} (hs : s ≤ 4294967295) (hw : w ≤ 4294967295) (ht : t ≤ 4294967295) : ∀ (n r i x : Nat), r ≤ 4294967295 → i + n = 25 → Z (d + 1) 176 t176_8 [4294967349, s + 1, w + 1, t + 1, r + 1, i + 1, x] [] q_h0 (q_h0, [z_fl w t n r])
  | 0, r, i, x, hr, hi => by
    have ei : i = 25 := by omega
    subst ei
    refine z_il (c := 25) rfl (by decide) ?_
    refine z_bp ?_
    refine z_iT (z_geT (by decide) (by decide) (by decide)) j176_52 ?_
    by_cases hb : r &&& t = 0
    · rw [z_fl0, q_ift _ _ (z_l0 hb)]
      refine z_il (c := r) rfl hr ?_
      refine z_iln (c := t) rfl ht ?_
      refine z_and (a := r) (b := t) (v := r &&& t) hr ht rfl ?_
      refine z_cF (z_neF (z_anl hr) hb) ?_
      refine z_il (c := r) rfl hr ?_
      refine z_go j176_65 ?_
      exact z_ir rfl hr
    · rw [z_fl0, q_iff _ _ (z_l1 hb)]
      refine z_il (c := r) rfl hr ?_
      refine z_iln (c := t) rfl ht ?_
      refine z_and (a := r) (b := t) (v := r &&& t) hr ht rfl ?_
      refine z_cT (z_neT (z_anl hr) (by decide) hb) j176_64 ?_
      refine z_ic ?_
      exact z_ir rfl (by decide)
  | n + 1, r, i, x, hr, hi => by
    refine z_il (c := i) rfl (by omega : i ≤ 4294967295) ?_
    refine z_bp ?_
    refine z_iF (z_geF (by omega) (by decide) (by omega)) ?_
    by_cases hb : r &&& t = 0
    · rw [z_flS, q_ift _ _ (z_l0 hb)]
      refine z_il (c := r) rfl hr ?_
      refine z_iln (c := t) rfl ht ?_
      refine z_and (a := r) (b := t) (v := r &&& t) hr ht rfl ?_
      refine z_cF (z_neF (z_anl hr) hb) ?_
      refine z_aln (c := 4294967348) rfl (by decide) ?_
      refine z_il (c := r) rfl hr ?_
      refine z_ivt (sa := [r, 4294967348]) (r := []) (rt := [z_spr r]) (j := 20) rfl rfl rfl rfl rfl (z_hc (z_ne hr) (z_hc (by decide) z_hn)) rfl rfl (show 20 < 96 by decide) (congrArg Prod.fst z_t20) (c26 hr) ?_
      refine z_iln (c := w) rfl hw ?_
      refine z_and (a := z_spr r) (b := w) (v := (z_spr r) &&& w) (z_sprl r) hw rfl ?_
      refine z_is (show 6 < 7 by decide) (z_anl (z_sprl r)) ?_
      by_cases he : z_spr r &&& w = r
      · rw [q_ift _ _ (q_beq.mpr (show Nat.land (z_spr r) w = r from he))]
        refine z_il (c := z_spr r &&& w) rfl (z_anl (z_sprl r)) ?_
        refine z_il (c := r) rfl hr ?_
        refine z_iF (z_neF (z_anl (z_sprl r)) he) ?_
        refine z_il (c := r) rfl hr ?_
        exact z_ir rfl hr
      · rw [q_iff _ _ (q_bneq.mpr (show ¬ Nat.land (z_spr r) w = r from he))]
        refine z_il (c := z_spr r &&& w) rfl (z_anl (z_sprl r)) ?_
        refine z_il (c := r) rfl hr ?_
        refine z_iT (z_neT (z_anl (z_sprl r)) hr he) j176_42 ?_
        refine z_il (c := z_spr r &&& w) rfl (z_anl (z_sprl r)) ?_
        refine z_is (show 4 < 7 by decide) (z_anl (z_sprl r)) ?_
        refine z_ii (c := i) (v := i + 1) rfl (show 5 < 7 by decide) rfl (by omega) ?_
        refine z_go j176_8 ?_
        exact c176l hs hw ht n (z_spr r &&& w) (i + 1) _ (z_anl (z_sprl r)) (by omega)
    · rw [z_flS, q_iff _ _ (z_l1 hb)]
      refine z_il (c := r) rfl hr ?_
      refine z_iln (c := t) rfl ht ?_
      refine z_and (a := r) (b := t) (v := r &&& t) hr ht rfl ?_
      refine z_cT (z_neT (z_anl hr) (by decide) hb) j176_52 ?_
      refine z_il (c := r) rfl hr ?_
      refine z_iln (c := t) rfl ht ?_
      refine z_and (a := r) (b := t) (v := r &&& t) hr ht rfl ?_
      refine z_cT (z_neT (z_anl hr) (by decide) hb) j176_64 ?_
      refine z_ic ?_
      exact z_ir rfl (by decide)
theorem c176 {d s w t : Nat} (hs : s ≤ 4294967295) (hw : w ≤ 4294967295) (ht : t ≤ 4294967295) : ZC (d + 1) 176 [4294967348, s, w, t] q_h0 (q_h0, [z_fl w t 25 (Nat.land s w)]) := by
  refine z_C (l := [4294967349, s + 1, w + 1, t + 1, 0, 0, 0]) (z_bc (by decide) (z_bc (z_em hs) (z_bc (z_em hw) (z_bc (z_em ht) z_bn)))) t176 (fun j => by rcases j with _ | _ | _ | _ | _ | _ | _ | _ | _ | _ | _ | _ | j <;> rfl) ?_
  refine z_iln (c := s) rfl hs ?_
  refine z_iln (c := w) rfl hw ?_
  refine z_and (a := s) (b := w) (v := s &&& w) hs hw rfl ?_
  refine z_is (show 4 < 7 by decide) (z_anl hs) ?_
  refine z_ic ?_
  refine z_is (show 5 < 7 by decide) (by decide) ?_
  exact c176l hs hw ht 25 (s &&& w) 0 0 (z_anl hs) rfl
/-- the first set of k cells below m beside g that cuts a from b -/
noncomputable def z_gl (a b : Nat) (f : Nat → Nat → Nat) (g n : Nat) : Nat → Nat := Nat.rec (fun _ => 4294967295) (fun _ ih c => bif Nat.beq c a || Nat.beq c b then q_fr (Nat.succ c) (fun c' => ih c') else q_fr (f c (Nat.lor g (q_w (Nat.shiftLeft 1 c)))) (fun v => bif Nat.beq v 4294967295 then q_fr (Nat.succ c) (fun c' => ih c') else v)) n
noncomputable def z_gt (a b k : Nat) : Nat → Nat → Nat := Nat.rec (fun _ g => q_fr g (fun g => bif Nat.beq (z_fl (Nat.land 65535 (Nat.xor g 4294967295)) (q_w (Nat.shiftLeft 1 b)) 25 (Nat.land (q_w (Nat.shiftLeft 1 a)) (Nat.land 65535 (Nat.xor g 4294967295)))) 0 then 4294967295 else g)) (fun j ih m g => z_gl a b ih g (Nat.sub m j) j) k
theorem z_gt0 (a b m g : Nat) : z_gt a b 0 m g = bif Nat.beq (z_fl (65535 &&& (g ^^^ 4294967295)) (q_w (1 <<< b)) 25 (Nat.land (q_w (1 <<< a)) (65535 &&& (g ^^^ 4294967295)))) 0 then 4294967295 else g := by
  show q_fr g (fun g => bif Nat.beq (z_fl (Nat.land 65535 (Nat.xor g 4294967295)) (q_w (Nat.shiftLeft 1 b)) 25 (Nat.land (q_w (Nat.shiftLeft 1 a)) (Nat.land 65535 (Nat.xor g 4294967295)))) 0 then 4294967295 else g) = _
  rw [q_fr_eq]
  rfl
theorem z_gtS (a b k m g : Nat) : z_gt a b (k + 1) m g = z_gl a b (z_gt a b k) g (m - k) k := rfl
theorem z_gl0 (a b : Nat) (f : Nat → Nat → Nat) (g c : Nat) : z_gl a b f g 0 c = 4294967295 := rfl
theorem z_glS (a b : Nat) (f : Nat → Nat → Nat) (g n c : Nat) : z_gl a b f g (n + 1) c = bif Nat.beq c a || Nat.beq c b then z_gl a b f g n (c + 1) else (bif Nat.beq (f c (g ||| q_w (1 <<< c))) 4294967295 then z_gl a b f g n (c + 1) else f c (g ||| q_w (1 <<< c))) := by
  show (bif Nat.beq c a || Nat.beq c b then q_fr (Nat.succ c) (fun c' => z_gl a b f g n c') else q_fr (f c (Nat.lor g (q_w (Nat.shiftLeft 1 c)))) (fun v => bif Nat.beq v 4294967295 then q_fr (Nat.succ c) (fun c' => z_gl a b f g n c') else v)) = _
  rw [q_fr_eq, q_fr_eq]
  rfl
theorem z_gll (a b : Nat) {f : Nat → Nat → Nat} (hf : ∀ m g, g ≤ 4294967295 → f m g ≤ 4294967295) (g : Nat) (hg : g ≤ 4294967295) : ∀ n c, z_gl a b f g n c ≤ 4294967295
  | 0, c => by rw [z_gl0]; omega
  | n + 1, c => by
    rw [z_glS]
    cases (Nat.beq c a || Nat.beq c b) with
    | true => exact z_gll a b hf g hg n (c + 1)
    | false =>
      cases Nat.beq (f c (g ||| q_w (1 <<< c))) 4294967295 with
      | true => exact z_gll a b hf g hg n (c + 1)
      | false => exact hf _ _ (z_orl hg (q_w_le _))
theorem z_gtl (a b : Nat) : ∀ k m g, g ≤ 4294967295 → z_gt a b k m g ≤ 4294967295
  | 0, m, g, hg => by
    rw [z_gt0]
    cases Nat.beq (z_fl (65535 &&& (g ^^^ 4294967295)) (q_w (1 <<< b)) 25 (Nat.land (q_w (1 <<< a)) (65535 &&& (g ^^^ 4294967295)))) 0 with
    | true => exact Nat.le_refl _
    | false => exact hg
  | k + 1, m, g, hg => by
    rw [z_gtS]
    exact z_gll a b (fun m g => z_gtl a b k m g) g hg _ _
theorem z_fll (w t : Nat) : ∀ n r, r ≤ 4294967295 → z_fl w t n r ≤ 4294967295
  | 0, r, hr => by
    rw [z_fl0]
    cases Nat.beq (Nat.land r t) 0 with
    | true => exact hr
    | false => exact Nat.zero_le _
  | n + 1, r, hr => by
    rw [z_flS]
    cases Nat.beq (Nat.land r t) 0 with
    | true =>
      cases Nat.beq (Nat.land (z_spr r) w) r with
      | true => exact hr
      | false => exact z_fll w t n _ (z_anl (z_sprl r))
    | false => exact Nat.zero_le _
theorem c191z {d a b m g : Nat} (ha : a < 16) (hb : b < 16) (hm : m ≤ 16) (hg : g ≤ 4294967295) : ZC (d + 2) 191 [4294967348, 0, m, g, a, b] q_h0 (q_h0, [z_gt a b 0 m g]) := by
  refine z_C (l := [4294967349, 1, m + 1, g + 1, a + 1, b + 1, 0, 0]) (z_bc (by decide) (z_bc (z_em (by decide)) (z_bc (z_em (by omega : m ≤ 4294967295)) (z_bc (z_em hg) (z_bc (z_em (by omega : a ≤ 4294967295)) (z_bc (z_em (by omega : b ≤ 4294967295)) z_bn)))))) t191 (fun j => by rcases j with _ | _ | _ | _ | _ | _ | _ | _ | _ | _ | _ | _ | j <;> rfl) ?_
  rw [z_gt0]
  by_cases h0 : z_fl (65535 &&& (g ^^^ 4294967295)) (q_w (1 <<< b)) 25 (Nat.land (q_w (1 <<< a)) (65535 &&& (g ^^^ 4294967295))) = 0
  · rw [q_ift _ _ (q_beq.mpr h0)]
    refine z_iln (c := 0) rfl (by decide) ?_
    refine z_cF (z_gtF (by decide) (by decide) (by decide)) ?_
    refine z_aln (c := 4294967348) rfl (by decide) ?_
    refine z_il (c := a) rfl (by omega : a ≤ 4294967295) ?_
    refine z_ist (sa := [a]) (r := [4294967348]) (rt := [q_w (1 <<< a)]) rfl rfl rfl rfl rfl rfl (z_hc (z_ne (by omega : a ≤ 4294967295)) z_hn) rfl (c16 (by omega)) ?_
    refine z_aln (c := 4294967348) rfl (by decide) ?_
    refine z_gf (j := 20) (v := 65535) rfl (show 20 < 96 by decide) z_hh0 z_t20 (by decide) z_g20_7 (by decide) ?_
    refine z_iln (c := g) rfl hg ?_
    refine z_ic ?_
    refine z_xor (a := g) (b := 4294967295) (v := g ^^^ 4294967295) hg (by decide) rfl ?_
    refine z_and (a := 65535) (b := g ^^^ 4294967295) (v := 65535 &&& (g ^^^ 4294967295)) (by decide) (z_xol hg (by decide)) rfl ?_
    refine z_il (c := b) rfl (by omega : b ≤ 4294967295) ?_
    refine z_ist (sa := [b]) (r := [65535 &&& (g ^^^ 4294967295), q_w (1 <<< a), 4294967348]) (rt := [q_w (1 <<< b)]) rfl rfl rfl rfl rfl rfl (z_hc (z_ne (by omega : b ≤ 4294967295)) z_hn) rfl (c16 (by omega)) ?_
    refine z_ivt (sa := [q_w (1 <<< b), 65535 &&& (g ^^^ 4294967295), q_w (1 <<< a), 4294967348]) (r := []) (rt := [z_fl (65535 &&& (g ^^^ 4294967295)) (q_w (1 <<< b)) 25 (Nat.land (q_w (1 <<< a)) (65535 &&& (g ^^^ 4294967295)))]) (j := 20) rfl rfl rfl rfl rfl (z_hc (z_ne (q_w_le _)) (z_hc (z_ne (z_anl (by decide))) (z_hc (z_ne (q_w_le _)) (z_hc (by decide) z_hn)))) rfl rfl (show 20 < 96 by decide) (congrArg Prod.fst z_t20) (c176 (q_w_le _) (z_anl (by decide)) (q_w_le _)) ?_
    refine z_cF (z_neF (z_fll _ _ _ _ (z_anl (q_w_le _))) h0) ?_
    refine z_ic ?_
    refine z_go j191_34 ?_
    exact z_ir rfl (by decide)
  · rw [q_iff _ _ (q_bneq.mpr h0)]
    refine z_iln (c := 0) rfl (by decide) ?_
    refine z_cF (z_gtF (by decide) (by decide) (by decide)) ?_
    refine z_aln (c := 4294967348) rfl (by decide) ?_
    refine z_il (c := a) rfl (by omega : a ≤ 4294967295) ?_
    refine z_ist (sa := [a]) (r := [4294967348]) (rt := [q_w (1 <<< a)]) rfl rfl rfl rfl rfl rfl (z_hc (z_ne (by omega : a ≤ 4294967295)) z_hn) rfl (c16 (by omega)) ?_
    refine z_aln (c := 4294967348) rfl (by decide) ?_
    refine z_gf (j := 20) (v := 65535) rfl (show 20 < 96 by decide) z_hh0 z_t20 (by decide) z_g20_7 (by decide) ?_
    refine z_iln (c := g) rfl hg ?_
    refine z_ic ?_
    refine z_xor (a := g) (b := 4294967295) (v := g ^^^ 4294967295) hg (by decide) rfl ?_
    refine z_and (a := 65535) (b := g ^^^ 4294967295) (v := 65535 &&& (g ^^^ 4294967295)) (by decide) (z_xol hg (by decide)) rfl ?_
    refine z_il (c := b) rfl (by omega : b ≤ 4294967295) ?_
    refine z_ist (sa := [b]) (r := [65535 &&& (g ^^^ 4294967295), q_w (1 <<< a), 4294967348]) (rt := [q_w (1 <<< b)]) rfl rfl rfl rfl rfl rfl (z_hc (z_ne (by omega : b ≤ 4294967295)) z_hn) rfl (c16 (by omega)) ?_
    refine z_ivt (sa := [q_w (1 <<< b), 65535 &&& (g ^^^ 4294967295), q_w (1 <<< a), 4294967348]) (r := []) (rt := [z_fl (65535 &&& (g ^^^ 4294967295)) (q_w (1 <<< b)) 25 (Nat.land (q_w (1 <<< a)) (65535 &&& (g ^^^ 4294967295)))]) (j := 20) rfl rfl rfl rfl rfl (z_hc (z_ne (q_w_le _)) (z_hc (z_ne (z_anl (by decide))) (z_hc (z_ne (q_w_le _)) (z_hc (by decide) z_hn)))) rfl rfl (show 20 < 96 by decide) (congrArg Prod.fst z_t20) (c176 (q_w_le _) (z_anl (by decide)) (q_w_le _)) ?_
    refine z_cT (z_neT (z_fll _ _ _ _ (z_anl (q_w_le _))) (by decide) h0) j191_33 ?_
    refine z_iln (c := g) rfl hg ?_
    exact z_ir rfl hg
theorem c191l {d a b m g k : Nat} (ha : a < 16) (hb : b < 16) (hm : m ≤ 16) (hg : g ≤ 4294967295) (hk : k < 16) (IH : ∀ m g, m ≤ 16 → g ≤ 4294967295 → ZC (d + k + 2) 191 [4294967348, k, m, g, a, b] q_h0 (q_h0, [z_gt a b k m g])) : ∀ (n c x : Nat), n = m - c → c ≤ 16 → Z (d + (k + 1) + 2) 191 t191_40 [4294967349, (k + 1) + 1, m + 1, g + 1, a + 1, b + 1, c + 1, x] [] q_h0 (q_h0, [z_gl a b (z_gt a b k) g n c])
  | 0, c, x, hn, hc => by
    rw [z_gl0]
    refine z_il (c := c) rfl (by omega : c ≤ 4294967295) ?_
    refine z_iln (c := m) rfl (by omega : m ≤ 4294967295) ?_
    refine z_iT (z_geT (by omega) (by omega) (by omega)) j191_109 ?_
    refine z_ic ?_
    exact z_ir rfl (by decide)
  | n + 1, c, x, hn, hc => by
    rw [z_glS]
    by_cases h1 : c = a
    · rw [q_ift _ _ (by rw [q_beq.mpr h1]; rfl)]
      refine z_il (c := c) rfl (by omega : c ≤ 4294967295) ?_
      refine z_iln (c := m) rfl (by omega : m ≤ 4294967295) ?_
      refine z_iF (z_geF (by omega) (by omega) (by omega)) ?_
      refine z_il (c := c) rfl (by omega : c ≤ 4294967295) ?_
      refine z_il (c := a) rfl (by omega : a ≤ 4294967295) ?_
      refine z_iT (z_eqT (by omega) h1) j191_103 ?_
      refine z_ii (c := c) (v := c + 1) rfl (show 6 < 8 by decide) rfl (by omega) ?_
      refine z_go j191_40 ?_
      exact c191l ha hb hm hg hk IH n (c + 1) x (by omega) (by omega)
    · by_cases h2 : c = b
      · rw [q_ift _ _ (by rw [q_beq.mpr h2, q_bneq.mpr h1]; rfl)]
        refine z_il (c := c) rfl (by omega : c ≤ 4294967295) ?_
        refine z_iln (c := m) rfl (by omega : m ≤ 4294967295) ?_
        refine z_iF (z_geF (by omega) (by omega) (by omega)) ?_
        refine z_il (c := c) rfl (by omega : c ≤ 4294967295) ?_
        refine z_il (c := a) rfl (by omega : a ≤ 4294967295) ?_
        refine z_iF (z_eqF (by omega) (by omega) h1) ?_
        refine z_il (c := c) rfl (by omega : c ≤ 4294967295) ?_
        refine z_il (c := b) rfl (by omega : b ≤ 4294967295) ?_
        refine z_iT (z_eqT (by omega) h2) j191_103 ?_
        refine z_ii (c := c) (v := c + 1) rfl (show 6 < 8 by decide) rfl (by omega) ?_
        refine z_go j191_40 ?_
        exact c191l ha hb hm hg hk IH n (c + 1) x (by omega) (by omega)
      · rw [q_iff _ _ (by rw [q_bneq.mpr h1, q_bneq.mpr h2]; rfl)]
        by_cases h3 : z_gt a b k c (g ||| q_w (1 <<< c)) = 4294967295
        · rw [q_ift _ _ (q_beq.mpr h3)]
          refine z_il (c := c) rfl (by omega : c ≤ 4294967295) ?_
          refine z_iln (c := m) rfl (by omega : m ≤ 4294967295) ?_
          refine z_iF (z_geF (by omega) (by omega) (by omega)) ?_
          refine z_il (c := c) rfl (by omega : c ≤ 4294967295) ?_
          refine z_il (c := a) rfl (by omega : a ≤ 4294967295) ?_
          refine z_iF (z_eqF (by omega) (by omega) h1) ?_
          refine z_il (c := c) rfl (by omega : c ≤ 4294967295) ?_
          refine z_il (c := b) rfl (by omega : b ≤ 4294967295) ?_
          refine z_iF (z_eqF (by omega) (by omega) h2) ?_
          refine z_aln (c := 4294967348) rfl (by decide) ?_
          refine z_gf (j := 20) (v := 65535) rfl (show 20 < 96 by decide) z_hh0 z_t20 (by decide) z_g20_7 (by decide) ?_
          refine z_il (c := c) rfl (by omega : c ≤ 4294967295) ?_
          refine z_ist (sa := [c, 65535]) (r := []) (rt := [1]) rfl rfl rfl rfl rfl rfl (z_hc (z_ne (by omega : c ≤ 4294967295)) (z_hc (z_ne (by decide)) z_hn)) rfl (c3 (by omega)) ?_
          refine z_cF (z_eqF (by decide) (by decide) (by decide)) ?_
          refine z_aln (c := 4294967348) rfl (by decide) ?_
          refine z_iln (c := k + 1) rfl (by omega : k + 1 ≤ 4294967295) ?_
          refine z_ic ?_
          refine z_sub (a := k + 1) (b := 1) (v := k) (by omega : k + 1 ≤ 4294967295) (by decide) (by omega) ?_
          refine z_il (c := c) rfl (by omega : c ≤ 4294967295) ?_
          refine z_iln (c := g) rfl hg ?_
          refine z_il (c := c) rfl (by omega : c ≤ 4294967295) ?_
          refine z_ist (sa := [c]) (r := [g, c, k, 4294967348]) (rt := [q_w (1 <<< c)]) rfl rfl rfl rfl rfl rfl (z_hc (z_ne (by omega : c ≤ 4294967295)) z_hn) rfl (c16 (by omega)) ?_
          refine z_or (a := g) (b := q_w (1 <<< c)) (v := g ||| (q_w (1 <<< c))) hg (q_w_le _) rfl ?_
          refine z_il (c := a) rfl (by omega : a ≤ 4294967295) ?_
          refine z_il (c := b) rfl (by omega : b ≤ 4294967295) ?_
          refine z_ivt (sa := [b, a, g ||| (q_w (1 <<< c)), c, k, 4294967348]) (r := []) (rt := [z_gt a b k c (g ||| q_w (1 <<< c))]) (j := 20) rfl rfl rfl rfl rfl (z_hc (z_ne (by omega : b ≤ 4294967295)) (z_hc (z_ne (by omega : a ≤ 4294967295)) (z_hc (z_ne (z_orl hg (q_w_le _))) (z_hc (z_ne (by omega : c ≤ 4294967295)) (z_hc (z_ne (by omega : k ≤ 4294967295)) (z_hc (by decide) z_hn)))))) rfl rfl (show 20 < 96 by decide) (congrArg Prod.fst z_t20) (IH c (g ||| q_w (1 <<< c)) (by omega) (z_orl hg (q_w_le _))) ?_
          refine z_is (show 7 < 8 by decide) (z_gtl a b k c _ (z_orl hg (q_w_le _))) ?_
          refine z_il (c := z_gt a b k c (g ||| q_w (1 <<< c))) rfl (z_gtl a b k c _ (z_orl hg (q_w_le _))) ?_
          refine z_ic ?_
          refine z_iT (z_eqT (z_gtl a b k c _ (z_orl hg (q_w_le _))) h3) j191_103 ?_
          refine z_ii (c := c) (v := c + 1) rfl (show 6 < 8 by decide) rfl (by omega) ?_
          refine z_go j191_40 ?_
          exact c191l ha hb hm hg hk IH n (c + 1) _ (by omega) (by omega)
        · rw [q_iff _ _ (q_bneq.mpr h3)]
          refine z_il (c := c) rfl (by omega : c ≤ 4294967295) ?_
          refine z_iln (c := m) rfl (by omega : m ≤ 4294967295) ?_
          refine z_iF (z_geF (by omega) (by omega) (by omega)) ?_
          refine z_il (c := c) rfl (by omega : c ≤ 4294967295) ?_
          refine z_il (c := a) rfl (by omega : a ≤ 4294967295) ?_
          refine z_iF (z_eqF (by omega) (by omega) h1) ?_
          refine z_il (c := c) rfl (by omega : c ≤ 4294967295) ?_
          refine z_il (c := b) rfl (by omega : b ≤ 4294967295) ?_
          refine z_iF (z_eqF (by omega) (by omega) h2) ?_
          refine z_aln (c := 4294967348) rfl (by decide) ?_
          refine z_gf (j := 20) (v := 65535) rfl (show 20 < 96 by decide) z_hh0 z_t20 (by decide) z_g20_7 (by decide) ?_
          refine z_il (c := c) rfl (by omega : c ≤ 4294967295) ?_
          refine z_ist (sa := [c, 65535]) (r := []) (rt := [1]) rfl rfl rfl rfl rfl rfl (z_hc (z_ne (by omega : c ≤ 4294967295)) (z_hc (z_ne (by decide)) z_hn)) rfl (c3 (by omega)) ?_
          refine z_cF (z_eqF (by decide) (by decide) (by decide)) ?_
          refine z_aln (c := 4294967348) rfl (by decide) ?_
          refine z_iln (c := k + 1) rfl (by omega : k + 1 ≤ 4294967295) ?_
          refine z_ic ?_
          refine z_sub (a := k + 1) (b := 1) (v := k) (by omega : k + 1 ≤ 4294967295) (by decide) (by omega) ?_
          refine z_il (c := c) rfl (by omega : c ≤ 4294967295) ?_
          refine z_iln (c := g) rfl hg ?_
          refine z_il (c := c) rfl (by omega : c ≤ 4294967295) ?_
          refine z_ist (sa := [c]) (r := [g, c, k, 4294967348]) (rt := [q_w (1 <<< c)]) rfl rfl rfl rfl rfl rfl (z_hc (z_ne (by omega : c ≤ 4294967295)) z_hn) rfl (c16 (by omega)) ?_
          refine z_or (a := g) (b := q_w (1 <<< c)) (v := g ||| (q_w (1 <<< c))) hg (q_w_le _) rfl ?_
          refine z_il (c := a) rfl (by omega : a ≤ 4294967295) ?_
          refine z_il (c := b) rfl (by omega : b ≤ 4294967295) ?_
          refine z_ivt (sa := [b, a, g ||| (q_w (1 <<< c)), c, k, 4294967348]) (r := []) (rt := [z_gt a b k c (g ||| q_w (1 <<< c))]) (j := 20) rfl rfl rfl rfl rfl (z_hc (z_ne (by omega : b ≤ 4294967295)) (z_hc (z_ne (by omega : a ≤ 4294967295)) (z_hc (z_ne (z_orl hg (q_w_le _))) (z_hc (z_ne (by omega : c ≤ 4294967295)) (z_hc (z_ne (by omega : k ≤ 4294967295)) (z_hc (by decide) z_hn)))))) rfl rfl (show 20 < 96 by decide) (congrArg Prod.fst z_t20) (IH c (g ||| q_w (1 <<< c)) (by omega) (z_orl hg (q_w_le _))) ?_
          refine z_is (show 7 < 8 by decide) (z_gtl a b k c _ (z_orl hg (q_w_le _))) ?_
          refine z_il (c := z_gt a b k c (g ||| q_w (1 <<< c))) rfl (z_gtl a b k c _ (z_orl hg (q_w_le _))) ?_
          refine z_ic ?_
          refine z_iF (z_eqF (z_gtl a b k c _ (z_orl hg (q_w_le _))) (by decide) h3) ?_
          refine z_il (c := z_gt a b k c (g ||| q_w (1 <<< c))) rfl (z_gtl a b k c _ (z_orl hg (q_w_le _))) ?_
          exact z_ir rfl (z_gtl a b k c _ (z_orl hg (q_w_le _)))
theorem c191 {a b : Nat} (ha : a < 16) (hb : b < 16) {d : Nat} : ∀ (k m g : Nat), k < 16 → m ≤ 16 → g ≤ 4294967295 → ZC (d + k + 2) 191 [4294967348, k, m, g, a, b] q_h0 (q_h0, [z_gt a b k m g])
  | 0, m, g, hk, hm, hg => c191z ha hb hm hg
  | k + 1, m, g, hk, hm, hg => by
    refine z_C (l := [4294967349, (k + 1) + 1, m + 1, g + 1, a + 1, b + 1, 0, 0]) (z_bc (by decide) (z_bc (z_em (by omega : k + 1 ≤ 4294967295)) (z_bc (z_em (by omega : m ≤ 4294967295)) (z_bc (z_em hg) (z_bc (z_em (by omega : a ≤ 4294967295)) (z_bc (z_em (by omega : b ≤ 4294967295)) z_bn)))))) t191 (fun j => by rcases j with _ | _ | _ | _ | _ | _ | _ | _ | _ | _ | _ | _ | j <;> rfl) ?_
    rw [z_gtS]
    refine z_iln (c := k + 1) rfl (by omega : k + 1 ≤ 4294967295) ?_
    refine z_cT (z_gtT (by omega) (by decide) (by omega)) j191_35 ?_
    refine z_iln (c := k + 1) rfl (by omega : k + 1 ≤ 4294967295) ?_
    refine z_ic ?_
    refine z_sub (a := k + 1) (b := 1) (v := k) (by omega : k + 1 ≤ 4294967295) (by decide) (by omega) ?_
    refine z_is (show 6 < 8 by decide) (by omega : k ≤ 4294967295) ?_
    exact c191l ha hb hm hg (by omega) (fun m g hm hg => c191 ha hb k m g (by omega) hm hg) (m - k) k 0 rfl (by omega)
