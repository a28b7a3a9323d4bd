/-! ===== the JDK's texts: names, words, instructions ===== -/
abbrev tx_y0 : MethodName := ⟨"java/lang/String", "coder", "()B"⟩
abbrev tx_b0 : ByteArray := prog_15_method_152_code
abbrev tx_r0 : Option FieldType := (some .byte)
theorem tx_c0 : Cond.code tx_y0 tx_b0 1 tx_r0 ∈ q_w0 := q_wat_ok (p := 585) (by decide +kernel)
theorem tx_i0 : Cond.instanceMethod tx_y0 ∈ q_w0 := q_wat_ok (p := 583) (by decide +kernel)
theorem tx_s0 : Cond.selects tx_y0.cls tx_y0 tx_y0 ∈ q_w0 := q_wat_ok (p := 584) (by decide +kernel)
theorem tx_n0 : Cond.initialized tx_y0.cls ∈ q_w0 := q_wat_ok (p := 120) (by decide +kernel)
theorem tx_p0 : tx_y0.cls ≠ "java/lang/invoke/MethodHandle" ∧ tx_y0.cls ≠ "java/lang/invoke/VarHandle" ∧ (parseMethodDescriptor tx_y0.desc).map (fun d => d.parameters.length) = some 0 := by decide +kernel
theorem tx_d0_0 : decode tx_b0 0 = .ok (.getstatic 38, 3) := by decide +kernel
theorem tx_d0_3 : decode tx_b0 3 = .ok (.ifCond .eq 10, 3) := by decide +kernel
theorem tx_d0_6 : decode tx_b0 6 = .ok (.aload_n 0, 1) := by decide +kernel
theorem tx_d0_7 : decode tx_b0 7 = .ok (.getfield 15, 3) := by decide +kernel
theorem tx_d0_10 : decode tx_b0 10 = .ok (.goto 4, 3) := by decide +kernel
theorem tx_d0_13 : decode tx_b0 13 = .ok (.iconst 1, 1) := by decide +kernel
theorem tx_d0_14 : decode tx_b0 14 = .ok (.ireturn, 1) := by decide +kernel
abbrev tx_y1 : MethodName := ⟨"java/lang/String", "isLatin1", "()Z"⟩
abbrev tx_b1 : ByteArray := prog_15_method_154_code
abbrev tx_r1 : Option FieldType := (some .boolean)
theorem tx_c1 : Cond.code tx_y1 tx_b1 1 tx_r1 ∈ q_w0 := q_wat_ok (p := 595) (by decide +kernel)
theorem tx_i1 : Cond.instanceMethod tx_y1 ∈ q_w0 := q_wat_ok (p := 593) (by decide +kernel)
theorem tx_s1 : Cond.selects tx_y1.cls tx_y1 tx_y1 ∈ q_w0 := q_wat_ok (p := 594) (by decide +kernel)
theorem tx_n1 : Cond.initialized tx_y1.cls ∈ q_w0 := q_wat_ok (p := 120) (by decide +kernel)
theorem tx_p1 : tx_y1.cls ≠ "java/lang/invoke/MethodHandle" ∧ tx_y1.cls ≠ "java/lang/invoke/VarHandle" ∧ (parseMethodDescriptor tx_y1.desc).map (fun d => d.parameters.length) = some 0 := by decide +kernel
theorem tx_d1_0 : decode tx_b1 0 = .ok (.getstatic 38, 3) := by decide +kernel
theorem tx_d1_3 : decode tx_b1 3 = .ok (.ifCond .eq 14, 3) := by decide +kernel
theorem tx_d1_6 : decode tx_b1 6 = .ok (.aload_n 0, 1) := by decide +kernel
theorem tx_d1_7 : decode tx_b1 7 = .ok (.getfield 15, 3) := by decide +kernel
theorem tx_d1_10 : decode tx_b1 10 = .ok (.ifCond .ne 7, 3) := by decide +kernel
theorem tx_d1_13 : decode tx_b1 13 = .ok (.iconst 1, 1) := by decide +kernel
theorem tx_d1_14 : decode tx_b1 14 = .ok (.goto 4, 3) := by decide +kernel
theorem tx_d1_17 : decode tx_b1 17 = .ok (.iconst 0, 1) := by decide +kernel
theorem tx_d1_18 : decode tx_b1 18 = .ok (.ireturn, 1) := by decide +kernel
abbrev tx_y2 : MethodName := ⟨"java/lang/String", "length", "()I"⟩
abbrev tx_b2 : ByteArray := prog_15_method_54_code
abbrev tx_r2 : Option FieldType := (some .int)
theorem tx_c2 : Cond.code tx_y2 tx_b2 1 tx_r2 ∈ q_w0 := q_wat_ok (p := 581) (by decide +kernel)
theorem tx_i2 : Cond.instanceMethod tx_y2 ∈ q_w0 := q_wat_ok (p := 579) (by decide +kernel)
theorem tx_s2 : Cond.selects tx_y2.cls tx_y2 tx_y2 ∈ q_w0 := q_wat_ok (p := 580) (by decide +kernel)
theorem tx_n2 : Cond.initialized tx_y2.cls ∈ q_w0 := q_wat_ok (p := 120) (by decide +kernel)
theorem tx_p2 : tx_y2.cls ≠ "java/lang/invoke/MethodHandle" ∧ tx_y2.cls ≠ "java/lang/invoke/VarHandle" ∧ (parseMethodDescriptor tx_y2.desc).map (fun d => d.parameters.length) = some 0 := by decide +kernel
theorem tx_d2_0 : decode tx_b2 0 = .ok (.aload_n 0, 1) := by decide +kernel
theorem tx_d2_1 : decode tx_b2 1 = .ok (.getfield 9, 3) := by decide +kernel
theorem tx_d2_4 : decode tx_b2 4 = .ok (.arraylength, 1) := by decide +kernel
theorem tx_d2_5 : decode tx_b2 5 = .ok (.aload_n 0, 1) := by decide +kernel
theorem tx_d2_6 : decode tx_b2 6 = .ok (.invokevirtual 335, 3) := by decide +kernel
theorem tx_l2_6 : Cond.methodLink tx_y2.cls 335 tx_y0 ∈ q_w0 := q_wat_ok (p := 582) (by decide +kernel)
theorem tx_d2_9 : decode tx_b2 9 = .ok (.ishr, 1) := by decide +kernel
theorem tx_d2_10 : decode tx_b2 10 = .ok (.ireturn, 1) := by decide +kernel
abbrev tx_y3 : MethodName := ⟨"jdk/internal/util/Preconditions", "checkIndex", "(IILjava/util/function/BiFunction;)I"⟩
abbrev tx_b3 : ByteArray := prog_20_method_11_code
abbrev tx_r3 : Option FieldType := (some .int)
theorem tx_c3 : Cond.code tx_y3 tx_b3 3 tx_r3 ∈ q_w0 := q_wat_ok (p := 606) (by decide +kernel)
theorem tx_i3 : Cond.static tx_y3 ∈ q_w0 := q_wat_ok (p := 605) (by decide +kernel)
theorem tx_n3 : Cond.initialized tx_y3.cls ∈ q_w0 := q_wat_ok (p := 122) (by decide +kernel)
theorem tx_p3 : tx_y3.cls ≠ "java/lang/invoke/MethodHandle" ∧ tx_y3.cls ≠ "java/lang/invoke/VarHandle" ∧ (parseMethodDescriptor tx_y3.desc).map (fun d => d.parameters.length) = some 3 := by decide +kernel
theorem tx_d3_0 : decode tx_b3 0 = .ok (.iload_n 0, 1) := by decide +kernel
theorem tx_d3_1 : decode tx_b3 1 = .ok (.ifCond .lt 8, 3) := by decide +kernel
theorem tx_d3_4 : decode tx_b3 4 = .ok (.iload_n 0, 1) := by decide +kernel
theorem tx_d3_5 : decode tx_b3 5 = .ok (.iload_n 1, 1) := by decide +kernel
theorem tx_d3_6 : decode tx_b3 6 = .ok (.if_icmp .lt 10, 3) := by decide +kernel
theorem tx_d3_9 : decode tx_b3 9 = .ok (.aload_n 2, 1) := by decide +kernel
theorem tx_d3_10 : decode tx_b3 10 = .ok (.iload_n 0, 1) := by decide +kernel
theorem tx_d3_11 : decode tx_b3 11 = .ok (.iload_n 1, 1) := by decide +kernel
theorem tx_d3_12 : decode tx_b3 12 = .ok (.invokestatic 95, 3) := by decide +kernel
theorem tx_d3_16 : decode tx_b3 16 = .ok (.iload_n 0, 1) := by decide +kernel
theorem tx_d3_17 : decode tx_b3 17 = .ok (.ireturn, 1) := by decide +kernel
abbrev tx_y4 : MethodName := ⟨"java/lang/String", "checkIndex", "(II)V"⟩
abbrev tx_b4 : ByteArray := prog_15_method_155_code
abbrev tx_r4 : Option FieldType := none
theorem tx_c4 : Cond.code tx_y4 tx_b4 2 tx_r4 ∈ q_w0 := q_wat_ok (p := 601) (by decide +kernel)
theorem tx_i4 : Cond.static tx_y4 ∈ q_w0 := q_wat_ok (p := 600) (by decide +kernel)
theorem tx_n4 : Cond.initialized tx_y4.cls ∈ q_w0 := q_wat_ok (p := 120) (by decide +kernel)
theorem tx_p4 : tx_y4.cls ≠ "java/lang/invoke/MethodHandle" ∧ tx_y4.cls ≠ "java/lang/invoke/VarHandle" ∧ (parseMethodDescriptor tx_y4.desc).map (fun d => d.parameters.length) = some 2 := by decide +kernel
theorem tx_d4_0 : decode tx_b4 0 = .ok (.iload_n 0, 1) := by decide +kernel
theorem tx_d4_1 : decode tx_b4 1 = .ok (.iload_n 1, 1) := by decide +kernel
theorem tx_d4_2 : decode tx_b4 2 = .ok (.getstatic 1053, 3) := by decide +kernel
theorem tx_d4_5 : decode tx_b4 5 = .ok (.invokestatic 1059, 3) := by decide +kernel
theorem tx_l4_5 : Cond.methodLink tx_y4.cls 1059 tx_y3 ∈ q_w0 := q_wat_ok (p := 604) (by decide +kernel)
theorem tx_d4_8 : decode tx_b4 8 = .ok (.pop, 1) := by decide +kernel
theorem tx_d4_9 : decode tx_b4 9 = .ok (.return_, 1) := by decide +kernel
abbrev tx_y5 : MethodName := ⟨"java/lang/StringLatin1", "charAt", "([BI)C"⟩
abbrev tx_b5 : ByteArray := prog_16_method_2_code
abbrev tx_r5 : Option FieldType := (some .char)
theorem tx_c5 : Cond.code tx_y5 tx_b5 2 tx_r5 ∈ q_w0 := q_wat_ok (p := 598) (by decide +kernel)
theorem tx_i5 : Cond.static tx_y5 ∈ q_w0 := q_wat_ok (p := 597) (by decide +kernel)
theorem tx_n5 : Cond.initialized tx_y5.cls ∈ q_w0 := q_wat_ok (p := 121) (by decide +kernel)
theorem tx_p5 : tx_y5.cls ≠ "java/lang/invoke/MethodHandle" ∧ tx_y5.cls ≠ "java/lang/invoke/VarHandle" ∧ (parseMethodDescriptor tx_y5.desc).map (fun d => d.parameters.length) = some 2 := by decide +kernel
theorem tx_d5_0 : decode tx_b5 0 = .ok (.iload_n 1, 1) := by decide +kernel
theorem tx_d5_1 : decode tx_b5 1 = .ok (.aload_n 0, 1) := by decide +kernel
theorem tx_d5_2 : decode tx_b5 2 = .ok (.arraylength, 1) := by decide +kernel
theorem tx_d5_3 : decode tx_b5 3 = .ok (.invokestatic 9, 3) := by decide +kernel
theorem tx_l5_3 : Cond.methodLink tx_y5.cls 9 tx_y4 ∈ q_w0 := q_wat_ok (p := 599) (by decide +kernel)
theorem tx_d5_6 : decode tx_b5 6 = .ok (.aload_n 0, 1) := by decide +kernel
theorem tx_d5_7 : decode tx_b5 7 = .ok (.iload_n 1, 1) := by decide +kernel
theorem tx_d5_8 : decode tx_b5 8 = .ok (.baload, 1) := by decide +kernel
theorem tx_d5_9 : decode tx_b5 9 = .ok (.sipush 255, 3) := by decide +kernel
theorem tx_d5_12 : decode tx_b5 12 = .ok (.iand, 1) := by decide +kernel
theorem tx_d5_13 : decode tx_b5 13 = .ok (.i2c, 1) := by decide +kernel
theorem tx_d5_14 : decode tx_b5 14 = .ok (.ireturn, 1) := by decide +kernel
abbrev tx_y6 : MethodName := ⟨"java/lang/String", "charAt", "(I)C"⟩
abbrev tx_b6 : ByteArray := prog_15_method_56_code
abbrev tx_r6 : Option FieldType := (some .char)
theorem tx_c6 : Cond.code tx_y6 tx_b6 2 tx_r6 ∈ q_w0 := q_wat_ok (p := 591) (by decide +kernel)
theorem tx_i6 : Cond.instanceMethod tx_y6 ∈ q_w0 := q_wat_ok (p := 589) (by decide +kernel)
theorem tx_s6 : Cond.selects tx_y6.cls tx_y6 tx_y6 ∈ q_w0 := q_wat_ok (p := 590) (by decide +kernel)
theorem tx_n6 : Cond.initialized tx_y6.cls ∈ q_w0 := q_wat_ok (p := 120) (by decide +kernel)
theorem tx_p6 : tx_y6.cls ≠ "java/lang/invoke/MethodHandle" ∧ tx_y6.cls ≠ "java/lang/invoke/VarHandle" ∧ (parseMethodDescriptor tx_y6.desc).map (fun d => d.parameters.length) = some 1 := by decide +kernel
theorem tx_d6_0 : decode tx_b6 0 = .ok (.aload_n 0, 1) := by decide +kernel
theorem tx_d6_1 : decode tx_b6 1 = .ok (.invokevirtual 492, 3) := by decide +kernel
theorem tx_l6_1 : Cond.methodLink tx_y6.cls 492 tx_y1 ∈ q_w0 := q_wat_ok (p := 592) (by decide +kernel)
theorem tx_d6_4 : decode tx_b6 4 = .ok (.ifCond .eq 12, 3) := by decide +kernel
theorem tx_d6_7 : decode tx_b6 7 = .ok (.aload_n 0, 1) := by decide +kernel
theorem tx_d6_8 : decode tx_b6 8 = .ok (.getfield 9, 3) := by decide +kernel
theorem tx_d6_11 : decode tx_b6 11 = .ok (.iload_n 1, 1) := by decide +kernel
theorem tx_d6_12 : decode tx_b6 12 = .ok (.invokestatic 495, 3) := by decide +kernel
theorem tx_l6_12 : Cond.methodLink tx_y6.cls 495 tx_y5 ∈ q_w0 := q_wat_ok (p := 596) (by decide +kernel)
theorem tx_d6_15 : decode tx_b6 15 = .ok (.ireturn, 1) := by decide +kernel
theorem tx_d6_16 : decode tx_b6 16 = .ok (.aload_n 0, 1) := by decide +kernel
theorem tx_d6_17 : decode tx_b6 17 = .ok (.getfield 9, 3) := by decide +kernel
theorem tx_d6_20 : decode tx_b6 20 = .ok (.iload_n 1, 1) := by decide +kernel
theorem tx_d6_21 : decode tx_b6 21 = .ok (.invokestatic 498, 3) := by decide +kernel
theorem tx_d6_24 : decode tx_b6 24 = .ok (.ireturn, 1) := by decide +kernel
abbrev tx_y7 : MethodName := ⟨"java/lang/Math", "max", "(II)I"⟩
abbrev tx_b7 : ByteArray := prog_14_method_65_code
abbrev tx_r7 : Option FieldType := (some .int)
theorem tx_c7 : Cond.code tx_y7 tx_b7 2 tx_r7 ∈ q_w0 := q_wat_ok (p := 651) (by decide +kernel)
theorem tx_i7 : Cond.static tx_y7 ∈ q_w0 := q_wat_ok (p := 650) (by decide +kernel)
theorem tx_n7 : Cond.initialized tx_y7.cls ∈ q_w0 := q_wat_ok (p := 116) (by decide +kernel)
theorem tx_p7 : tx_y7.cls ≠ "java/lang/invoke/MethodHandle" ∧ tx_y7.cls ≠ "java/lang/invoke/VarHandle" ∧ (parseMethodDescriptor tx_y7.desc).map (fun d => d.parameters.length) = some 2 := by decide +kernel
theorem tx_d7_0 : decode tx_b7 0 = .ok (.iload_n 0, 1) := by decide +kernel
theorem tx_d7_1 : decode tx_b7 1 = .ok (.iload_n 1, 1) := by decide +kernel
theorem tx_d7_2 : decode tx_b7 2 = .ok (.if_icmp .lt 7, 3) := by decide +kernel
theorem tx_d7_5 : decode tx_b7 5 = .ok (.iload_n 0, 1) := by decide +kernel
theorem tx_d7_6 : decode tx_b7 6 = .ok (.goto 4, 3) := by decide +kernel
theorem tx_d7_9 : decode tx_b7 9 = .ok (.iload_n 1, 1) := by decide +kernel
theorem tx_d7_10 : decode tx_b7 10 = .ok (.ireturn, 1) := by decide +kernel
abbrev tx_y8 : MethodName := ⟨"java/lang/Math", "min", "(II)I"⟩
abbrev tx_b8 : ByteArray := prog_14_method_69_code
abbrev tx_r8 : Option FieldType := (some .int)
theorem tx_c8 : Cond.code tx_y8 tx_b8 2 tx_r8 ∈ q_w0 := q_wat_ok (p := 464) (by decide +kernel)
theorem tx_i8 : Cond.static tx_y8 ∈ q_w0 := q_wat_ok (p := 463) (by decide +kernel)
theorem tx_n8 : Cond.initialized tx_y8.cls ∈ q_w0 := q_wat_ok (p := 116) (by decide +kernel)
theorem tx_p8 : tx_y8.cls ≠ "java/lang/invoke/MethodHandle" ∧ tx_y8.cls ≠ "java/lang/invoke/VarHandle" ∧ (parseMethodDescriptor tx_y8.desc).map (fun d => d.parameters.length) = some 2 := by decide +kernel
theorem tx_d8_0 : decode tx_b8 0 = .ok (.iload_n 0, 1) := by decide +kernel
theorem tx_d8_1 : decode tx_b8 1 = .ok (.iload_n 1, 1) := by decide +kernel
theorem tx_d8_2 : decode tx_b8 2 = .ok (.if_icmp .gt 7, 3) := by decide +kernel
theorem tx_d8_5 : decode tx_b8 5 = .ok (.iload_n 0, 1) := by decide +kernel
theorem tx_d8_6 : decode tx_b8 6 = .ok (.goto 4, 3) := by decide +kernel
theorem tx_d8_9 : decode tx_b8 9 = .ok (.iload_n 1, 1) := by decide +kernel
theorem tx_d8_10 : decode tx_b8 10 = .ok (.ireturn, 1) := by decide +kernel
abbrev tx_y9 : MethodName := ⟨"java/lang/StringLatin1", "canEncode", "(I)Z"⟩
abbrev tx_b9 : ByteArray := prog_16_method_4_code
abbrev tx_r9 : Option FieldType := (some .boolean)
theorem tx_c9 : Cond.code tx_y9 tx_b9 1 tx_r9 ∈ q_w0 := q_wat_ok (p := 648) (by decide +kernel)
theorem tx_i9 : Cond.static tx_y9 ∈ q_w0 := q_wat_ok (p := 647) (by decide +kernel)
theorem tx_n9 : Cond.initialized tx_y9.cls ∈ q_w0 := q_wat_ok (p := 121) (by decide +kernel)
theorem tx_p9 : tx_y9.cls ≠ "java/lang/invoke/MethodHandle" ∧ tx_y9.cls ≠ "java/lang/invoke/VarHandle" ∧ (parseMethodDescriptor tx_y9.desc).map (fun d => d.parameters.length) = some 1 := by decide +kernel
theorem tx_d9_0 : decode tx_b9 0 = .ok (.iload_n 0, 1) := by decide +kernel
theorem tx_d9_1 : decode tx_b9 1 = .ok (.ifCond .lt 14, 3) := by decide +kernel
theorem tx_d9_4 : decode tx_b9 4 = .ok (.iload_n 0, 1) := by decide +kernel
theorem tx_d9_5 : decode tx_b9 5 = .ok (.sipush 255, 3) := by decide +kernel
theorem tx_d9_8 : decode tx_b9 8 = .ok (.if_icmp .gt 7, 3) := by decide +kernel
theorem tx_d9_11 : decode tx_b9 11 = .ok (.iconst 1, 1) := by decide +kernel
theorem tx_d9_12 : decode tx_b9 12 = .ok (.goto 4, 3) := by decide +kernel
theorem tx_d9_15 : decode tx_b9 15 = .ok (.iconst 0, 1) := by decide +kernel
theorem tx_d9_16 : decode tx_b9 16 = .ok (.ireturn, 1) := by decide +kernel
abbrev tx_y10 : MethodName := ⟨"java/lang/StringLatin1", "indexOfChar", "([BIII)I"⟩
abbrev tx_b10 : ByteArray := prog_16_method_23_code
abbrev tx_r10 : Option FieldType := (some .int)
theorem tx_c10 : Cond.code tx_y10 tx_b10 6 tx_r10 ∈ q_w0 := q_wat_ok (p := 655) (by decide +kernel)
theorem tx_i10 : Cond.static tx_y10 ∈ q_w0 := q_wat_ok (p := 654) (by decide +kernel)
theorem tx_n10 : Cond.initialized tx_y10.cls ∈ q_w0 := q_wat_ok (p := 121) (by decide +kernel)
theorem tx_p10 : tx_y10.cls ≠ "java/lang/invoke/MethodHandle" ∧ tx_y10.cls ≠ "java/lang/invoke/VarHandle" ∧ (parseMethodDescriptor tx_y10.desc).map (fun d => d.parameters.length) = some 4 := by decide +kernel
theorem tx_d10_0 : decode tx_b10 0 = .ok (.iload_n 1, 1) := by decide +kernel
theorem tx_d10_1 : decode tx_b10 1 = .ok (.i2b, 1) := by decide +kernel
theorem tx_d10_2 : decode tx_b10 2 = .ok (.istore 4, 2) := by decide +kernel
theorem tx_d10_4 : decode tx_b10 4 = .ok (.iload_n 2, 1) := by decide +kernel
theorem tx_d10_5 : decode tx_b10 5 = .ok (.istore 5, 2) := by decide +kernel
theorem tx_d10_7 : decode tx_b10 7 = .ok (.iload 5, 2) := by decide +kernel
theorem tx_d10_9 : decode tx_b10 9 = .ok (.iload_n 3, 1) := by decide +kernel
theorem tx_d10_10 : decode tx_b10 10 = .ok (.if_icmp .ge 21, 3) := by decide +kernel
theorem tx_d10_13 : decode tx_b10 13 = .ok (.aload_n 0, 1) := by decide +kernel
theorem tx_d10_14 : decode tx_b10 14 = .ok (.iload 5, 2) := by decide +kernel
theorem tx_d10_16 : decode tx_b10 16 = .ok (.baload, 1) := by decide +kernel
theorem tx_d10_17 : decode tx_b10 17 = .ok (.iload 4, 2) := by decide +kernel
theorem tx_d10_19 : decode tx_b10 19 = .ok (.if_icmp .ne 6, 3) := by decide +kernel
theorem tx_d10_22 : decode tx_b10 22 = .ok (.iload 5, 2) := by decide +kernel
theorem tx_d10_24 : decode tx_b10 24 = .ok (.ireturn, 1) := by decide +kernel
theorem tx_d10_25 : decode tx_b10 25 = .ok (.iinc 5 1, 3) := by decide +kernel
theorem tx_d10_28 : decode tx_b10 28 = .ok (.goto (-21), 3) := by decide +kernel
theorem tx_d10_31 : decode tx_b10 31 = .ok (.iconst (-1), 1) := by decide +kernel
theorem tx_d10_32 : decode tx_b10 32 = .ok (.ireturn, 1) := by decide +kernel
abbrev tx_y11 : MethodName := ⟨"java/lang/StringLatin1", "indexOf", "([BIII)I"⟩
abbrev tx_b11 : ByteArray := prog_16_method_22_code
abbrev tx_r11 : Option FieldType := (some .int)
theorem tx_c11 : Cond.code tx_y11 tx_b11 4 tx_r11 ∈ q_w0 := q_wat_ok (p := 645) (by decide +kernel)
theorem tx_i11 : Cond.static tx_y11 ∈ q_w0 := q_wat_ok (p := 644) (by decide +kernel)
theorem tx_n11 : Cond.initialized tx_y11.cls ∈ q_w0 := q_wat_ok (p := 121) (by decide +kernel)
theorem tx_p11 : tx_y11.cls ≠ "java/lang/invoke/MethodHandle" ∧ tx_y11.cls ≠ "java/lang/invoke/VarHandle" ∧ (parseMethodDescriptor tx_y11.desc).map (fun d => d.parameters.length) = some 4 := by decide +kernel
theorem tx_d11_0 : decode tx_b11 0 = .ok (.iload_n 1, 1) := by decide +kernel
theorem tx_d11_1 : decode tx_b11 1 = .ok (.invokestatic 88, 3) := by decide +kernel
theorem tx_l11_1 : Cond.methodLink tx_y11.cls 88 tx_y9 ∈ q_w0 := q_wat_ok (p := 646) (by decide +kernel)
theorem tx_d11_4 : decode tx_b11 4 = .ok (.ifCond .ne 5, 3) := by decide +kernel
theorem tx_d11_7 : decode tx_b11 7 = .ok (.iconst (-1), 1) := by decide +kernel
theorem tx_d11_8 : decode tx_b11 8 = .ok (.ireturn, 1) := by decide +kernel
theorem tx_d11_9 : decode tx_b11 9 = .ok (.iload_n 2, 1) := by decide +kernel
theorem tx_d11_10 : decode tx_b11 10 = .ok (.iconst 0, 1) := by decide +kernel
theorem tx_d11_11 : decode tx_b11 11 = .ok (.invokestatic 92, 3) := by decide +kernel
theorem tx_l11_11 : Cond.methodLink tx_y11.cls 92 tx_y7 ∈ q_w0 := q_wat_ok (p := 649) (by decide +kernel)
theorem tx_d11_14 : decode tx_b11 14 = .ok (.istore_n 2, 1) := by decide +kernel
theorem tx_d11_15 : decode tx_b11 15 = .ok (.iload_n 3, 1) := by decide +kernel
theorem tx_d11_16 : decode tx_b11 16 = .ok (.aload_n 0, 1) := by decide +kernel
theorem tx_d11_17 : decode tx_b11 17 = .ok (.arraylength, 1) := by decide +kernel
theorem tx_d11_18 : decode tx_b11 18 = .ok (.invokestatic 38, 3) := by decide +kernel
theorem tx_l11_18 : Cond.methodLink tx_y11.cls 38 tx_y8 ∈ q_w0 := q_wat_ok (p := 652) (by decide +kernel)
theorem tx_d11_21 : decode tx_b11 21 = .ok (.istore_n 3, 1) := by decide +kernel
theorem tx_d11_22 : decode tx_b11 22 = .ok (.iload_n 2, 1) := by decide +kernel
theorem tx_d11_23 : decode tx_b11 23 = .ok (.iload_n 3, 1) := by decide +kernel
theorem tx_d11_24 : decode tx_b11 24 = .ok (.if_icmp .lt 5, 3) := by decide +kernel
theorem tx_d11_27 : decode tx_b11 27 = .ok (.iconst (-1), 1) := by decide +kernel
theorem tx_d11_28 : decode tx_b11 28 = .ok (.ireturn, 1) := by decide +kernel
theorem tx_d11_29 : decode tx_b11 29 = .ok (.aload_n 0, 1) := by decide +kernel
theorem tx_d11_30 : decode tx_b11 30 = .ok (.iload_n 1, 1) := by decide +kernel
theorem tx_d11_31 : decode tx_b11 31 = .ok (.iload_n 2, 1) := by decide +kernel
theorem tx_d11_32 : decode tx_b11 32 = .ok (.iload_n 3, 1) := by decide +kernel
theorem tx_d11_33 : decode tx_b11 33 = .ok (.invokestatic 95, 3) := by decide +kernel
theorem tx_l11_33 : Cond.methodLink tx_y11.cls 95 tx_y10 ∈ q_w0 := q_wat_ok (p := 653) (by decide +kernel)
theorem tx_d11_36 : decode tx_b11 36 = .ok (.ireturn, 1) := by decide +kernel
abbrev tx_y12 : MethodName := ⟨"java/lang/String", "indexOf", "(II)I"⟩
abbrev tx_b12 : ByteArray := prog_15_method_80_code
abbrev tx_r12 : Option FieldType := (some .int)
theorem tx_c12 : Cond.code tx_y12 tx_b12 3 tx_r12 ∈ q_w0 := q_wat_ok (p := 641) (by decide +kernel)
theorem tx_i12 : Cond.instanceMethod tx_y12 ∈ q_w0 := q_wat_ok (p := 639) (by decide +kernel)
theorem tx_s12 : Cond.selects tx_y12.cls tx_y12 tx_y12 ∈ q_w0 := q_wat_ok (p := 640) (by decide +kernel)
theorem tx_n12 : Cond.initialized tx_y12.cls ∈ q_w0 := q_wat_ok (p := 120) (by decide +kernel)
theorem tx_p12 : tx_y12.cls ≠ "java/lang/invoke/MethodHandle" ∧ tx_y12.cls ≠ "java/lang/invoke/VarHandle" ∧ (parseMethodDescriptor tx_y12.desc).map (fun d => d.parameters.length) = some 2 := by decide +kernel
theorem tx_d12_0 : decode tx_b12 0 = .ok (.aload_n 0, 1) := by decide +kernel
theorem tx_d12_1 : decode tx_b12 1 = .ok (.invokevirtual 492, 3) := by decide +kernel
theorem tx_l12_1 : Cond.methodLink tx_y12.cls 492 tx_y1 ∈ q_w0 := q_wat_ok (p := 592) (by decide +kernel)
theorem tx_d12_4 : decode tx_b12 4 = .ok (.ifCond .eq 19, 3) := by decide +kernel
theorem tx_d12_7 : decode tx_b12 7 = .ok (.aload_n 0, 1) := by decide +kernel
theorem tx_d12_8 : decode tx_b12 8 = .ok (.getfield 9, 3) := by decide +kernel
theorem tx_d12_11 : decode tx_b12 11 = .ok (.iload_n 1, 1) := by decide +kernel
theorem tx_d12_12 : decode tx_b12 12 = .ok (.iload_n 2, 1) := by decide +kernel
theorem tx_d12_13 : decode tx_b12 13 = .ok (.aload_n 0, 1) := by decide +kernel
theorem tx_d12_14 : decode tx_b12 14 = .ok (.invokevirtual 505, 3) := by decide +kernel
theorem tx_l12_14 : Cond.methodLink tx_y12.cls 505 tx_y2 ∈ q_w0 := q_wat_ok (p := 642) (by decide +kernel)
theorem tx_d12_17 : decode tx_b12 17 = .ok (.invokestatic 637, 3) := by decide +kernel
theorem tx_l12_17 : Cond.methodLink tx_y12.cls 637 tx_y11 ∈ q_w0 := q_wat_ok (p := 643) (by decide +kernel)
theorem tx_d12_20 : decode tx_b12 20 = .ok (.goto 16, 3) := by decide +kernel
theorem tx_d12_23 : decode tx_b12 23 = .ok (.aload_n 0, 1) := by decide +kernel
theorem tx_d12_24 : decode tx_b12 24 = .ok (.getfield 9, 3) := by decide +kernel
theorem tx_d12_27 : decode tx_b12 27 = .ok (.iload_n 1, 1) := by decide +kernel
theorem tx_d12_28 : decode tx_b12 28 = .ok (.iload_n 2, 1) := by decide +kernel
theorem tx_d12_29 : decode tx_b12 29 = .ok (.aload_n 0, 1) := by decide +kernel
theorem tx_d12_30 : decode tx_b12 30 = .ok (.invokevirtual 505, 3) := by decide +kernel
theorem tx_l12_30 : Cond.methodLink tx_y12.cls 505 tx_y2 ∈ q_w0 := q_wat_ok (p := 642) (by decide +kernel)
theorem tx_d12_33 : decode tx_b12 33 = .ok (.invokestatic 640, 3) := by decide +kernel
theorem tx_d12_36 : decode tx_b12 36 = .ok (.ireturn, 1) := by decide +kernel
abbrev tx_y13 : MethodName := ⟨"java/lang/String", "indexOf", "(I)I"⟩
abbrev tx_b13 : ByteArray := prog_15_method_79_code
abbrev tx_r13 : Option FieldType := (some .int)
theorem tx_c13 : Cond.code tx_y13 tx_b13 2 tx_r13 ∈ q_w0 := q_wat_ok (p := 637) (by decide +kernel)
theorem tx_i13 : Cond.instanceMethod tx_y13 ∈ q_w0 := q_wat_ok (p := 635) (by decide +kernel)
theorem tx_s13 : Cond.selects tx_y13.cls tx_y13 tx_y13 ∈ q_w0 := q_wat_ok (p := 636) (by decide +kernel)
theorem tx_n13 : Cond.initialized tx_y13.cls ∈ q_w0 := q_wat_ok (p := 120) (by decide +kernel)
theorem tx_p13 : tx_y13.cls ≠ "java/lang/invoke/MethodHandle" ∧ tx_y13.cls ≠ "java/lang/invoke/VarHandle" ∧ (parseMethodDescriptor tx_y13.desc).map (fun d => d.parameters.length) = some 1 := by decide +kernel
theorem tx_d13_0 : decode tx_b13 0 = .ok (.aload_n 0, 1) := by decide +kernel
theorem tx_d13_1 : decode tx_b13 1 = .ok (.iload_n 1, 1) := by decide +kernel
theorem tx_d13_2 : decode tx_b13 2 = .ok (.iconst 0, 1) := by decide +kernel
theorem tx_d13_3 : decode tx_b13 3 = .ok (.invokevirtual 633, 3) := by decide +kernel
theorem tx_l13_3 : Cond.methodLink tx_y13.cls 633 tx_y12 ∈ q_w0 := q_wat_ok (p := 638) (by decide +kernel)
theorem tx_d13_6 : decode tx_b13 6 = .ok (.ireturn, 1) := by decide +kernel
theorem tx_fs : Cond.fieldLink "java/lang/String" 38 "java/lang/String" "COMPACT_STRINGS" "Z" ∈ q_w0 := q_wat_ok (p := 586) (by decide +kernel)
theorem tx_fq : Cond.fieldLink "java/lang/String" 1053 "jdk/internal/util/Preconditions" "SIOOBE_FORMATTER" "Ljava/util/function/BiFunction;" ∈ q_w0 := q_wat_ok (p := 602) (by decide +kernel)
theorem tx_fv : Cond.fieldLink "java/lang/String" 9 "java/lang/String" "value" "[B" ∈ q_w0 := q_wat_ok (p := 1917) (by decide +kernel)
theorem tx_fc : Cond.fieldLink "java/lang/String" 15 "java/lang/String" "coder" "B" ∈ q_w0 := q_wat_ok (p := 1918) (by decide +kernel)
