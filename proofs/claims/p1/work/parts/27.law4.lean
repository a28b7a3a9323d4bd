/-! ===== the law: the constructors' calls, the calls by their numbers ===== -/
section QL
variable {p : Program} {l : Launch} {e : Env} {s : State} {m : MethodId} {below : List Frame} {meth : Method} {c : Code} {b L : Nat} {xs : Nat → Int32} {H : Heap} {locs : List Loc} {cells slots : Nat} {Q : State → Prop} {ls : Array Slot} {D : va_G}
theorem q_linit (C0 : lw_At p s m meth c b L xs) (hX2 : q_X s) {i idx k : Nat} {rest : List Value} {h h' : q_H} (hi : i < q_nM) (hM : q_Met l s.heap.size D xs 10 i [4294967328 + k] h h' []) (hlk : Cond.methodLink R_law idx (q_y i) ∈ lw_tbl) (hnp : q_np i = 0) (hkn : Nat.beq (q_kn i) 2 = true) (hk : k < h.1)
    {ws : va_W} {tys : List (ClassId × FieldType)} (hw : q_W xs h ws tys) (hP : va_P D q_cls ws H) (hK : va_K D q_cls tys s) (hD : va_D (q_A s.heap.size) ws) (hS : va_S (q_A s.heap.size) s.heap H locs) {a : Nat} (ha : (q_ad ws)[k]? = some a) {pc : Nat} (hls : ls.size = 4) (hrest : (rest.map fun v => v.category).sum ≤ 8) (hd : decode code pc = .ok (.invokespecial idx, 3)) (hc1 : cells + (h'.1 - h.1) ≤ 600000) (hc2 : slots + (q_ss h' - q_ss h) ≤ 7302250)
    (kk : ∀ (ws1 : va_W) (tys1 : List (ClassId × FieldType)) (H1 : Heap) (locs1 : List Loc), q_ad ws <+: q_ad ws1 → q_W xs h' ws1 tys1 → va_P D q_cls ws1 H1 → va_K D q_cls tys1 s → va_D (q_A s.heap.size) ws1 → va_S (q_A s.heap.size) s.heap H1 locs1 → W p l e room_1 s m #[Value.ref b] below meth c H1 locs1 (cells + (h'.1 - h.1)) (slots + (q_ss h' - q_ss h)) Q (F0 m (pc + 3) ls rest)) : W p l e room_1 s m #[Value.ref b] below meth c H locs cells slots Q (F0 m pc ls (.ref a :: rest)) := by
  obtain ⟨hx, hb, hr, hml, hown, hts, hX, hbl, hlocks, hgv⟩ := C0
  have hk128 : k < 128 := Nat.lt_of_lt_of_le hk hw.2.1
  have hav : q_S xs (q_ad ws) [4294967328 + k] [.ref a] := ⟨q_v.mkref ha hk128, trivial⟩
  have hMet := hM.2 (q_ad ws) [.ref a] hav
  obtain ⟨k1, k2, k3, k4, k5, k6, -⟩ := q_okm i hi
  have hsub : ∀ w ∈ q_w0, w.before #[Value.ref b] s = true := fun w hw => hts w (List.mem_filter.mp hw).1
  have hG : GoodIn lw_tbl (q_wy i) := fun w hw => by
    have := q_goodIn k1 w hw
    exact ⟨(List.mem_filter.mp this.1).1, this.2⟩
  have kn0 : Nat.beq (q_kn i) 0 = false := q_bneq.mpr (by rw [q_beq.mp hkn]; decide)
  have hdesc := q_np_ok i hi
  rw [hnp] at hdesc
  obtain ⟨hin1, hrt⟩ := q_ini_ok i hi hkn
  have hwy : q_wy i = Cond.code (q_y i) (q_b i) (q_ml i) none :: q_w0 := by rw [← hrt]; rfl
  refine q_after (va_runI (Ts := lw_tbl) (own := R_law) (nL := 4) (As := []) (b := a) ⟨hx, hb, hml, hown, hts⟩ hMet ⟨callB_of 0 hts hG hwy rfl rfl (hsub _ k3) (hts _ hlk) ⟨k4, k5, hdesc⟩ ⟨by show 10 + 1 ≤ 2048; decide, by show 8 + (q_ml i + 11) + 40 * 10 ≤ 84000; omega⟩, hin1, hsub _ (q_wat_ok (q_in_ok i hi kn0))⟩ ⟨q_blind, fun U hU hW => ⟨rfl, by rw [hU]; exact hS.1, q_X.warm hW hX2, ws, tys, rfl, hw, by rw [hU]; exact hP, va_K.moved hW.alike hK, hD⟩⟩ rfl rfl hls rfl (lv_room hrest) hd ⟨hc1, hc2⟩) hS (fun vv ws1 tys1 H1 locs1 h1 h2 h3 h4 h5 h6 h7 => ?_)
  rcases h1 with ⟨-, rfl⟩ | ⟨cc, xv, e1, -, -⟩
  · exact kk ws1 tys1 H1 locs1 h2 h3 h4 h5 h6 h7
  · cases e1
end QL

theorem q_lk0_1 : Cond.methodLink R_law 13 (q_y 149) ∈ lw_tbl := List.mem_of_getElem? (i := 533) (by decide +kernel)
theorem q_lk0_2 : Cond.methodLink R_law 17 (q_y 150) ∈ lw_tbl := List.mem_of_getElem? (i := 1909) (by decide +kernel)
theorem q_ld0 : q_opd 236 5 13 17 = true := by decide +kernel
theorem q_ln0 : (Nat.beq (q_np 149) 5 && (Nat.beq (q_np 150) 5 && (Nat.beq (q_kn 149) 1 && (Nat.beq (q_kn 150) 1 && (Nat.beq (q_on 149) 8 && (Nat.beq (q_on 150) 9 && (Nat.ble (5 + 1) (q_ml 149) && Nat.ble (5 + 1) (q_ml 150)))))))) = true := by decide +kernel
theorem q_lk1_1 : Cond.methodLink R_law 18 (q_y 64) ∈ lw_tbl := List.mem_of_getElem? (i := 541) (by decide +kernel)
theorem q_lk1_2 : Cond.methodLink R_law 22 (q_y 82) ∈ lw_tbl := List.mem_of_getElem? (i := 1913) (by decide +kernel)
theorem q_ld1 : q_opd 299 1 18 22 = true := by decide +kernel
theorem q_ln1 : (Nat.beq (q_np 64) 1 && (Nat.beq (q_np 82) 1 && (Nat.beq (q_kn 64) 1 && (Nat.beq (q_kn 82) 1 && (Nat.beq (q_on 64) 8 && (Nat.beq (q_on 82) 9 && (Nat.ble (1 + 1) (q_ml 64) && Nat.ble (1 + 1) (q_ml 82)))))))) = true := by decide +kernel
theorem q_lk2_1 : Cond.methodLink R_law 23 (q_y 151) ∈ lw_tbl := List.mem_of_getElem? (i := 545) (by decide +kernel)
theorem q_lk2_2 : Cond.methodLink R_law 27 (q_y 158) ∈ lw_tbl := List.mem_of_getElem? (i := 1446) (by decide +kernel)
theorem q_ld2 : q_opd 322 0 23 27 = true := by decide +kernel
theorem q_ln2 : (Nat.beq (q_np 151) 0 && (Nat.beq (q_np 158) 0 && (Nat.beq (q_kn 151) 1 && (Nat.beq (q_kn 158) 1 && (Nat.beq (q_on 151) 8 && (Nat.beq (q_on 158) 9 && (Nat.ble (0 + 1) (q_ml 151) && Nat.ble (0 + 1) (q_ml 158)))))))) = true := by decide +kernel
theorem q_lk3_1 : Cond.methodLink R_law 28 (q_y 60) ∈ lw_tbl := List.mem_of_getElem? (i := 783) (by decide +kernel)
theorem q_lk3_2 : Cond.methodLink R_law 31 (q_y 70) ∈ lw_tbl := List.mem_of_getElem? (i := 1583) (by decide +kernel)
theorem q_ld3 : q_opd 335 1 28 31 = true := by decide +kernel
theorem q_ln3 : (Nat.beq (q_np 60) 1 && (Nat.beq (q_np 70) 1 && (Nat.beq (q_kn 60) 1 && (Nat.beq (q_kn 70) 1 && (Nat.beq (q_on 60) 8 && (Nat.beq (q_on 70) 9 && (Nat.ble (1 + 1) (q_ml 60) && Nat.ble (1 + 1) (q_ml 70)))))))) = true := by decide +kernel
theorem q_lk4_1 : Cond.methodLink R_law 32 (q_y 83) ∈ lw_tbl := List.mem_of_getElem? (i := 787) (by decide +kernel)
theorem q_lk4_2 : Cond.methodLink R_law 36 (q_y 117) ∈ lw_tbl := List.mem_of_getElem? (i := 1587) (by decide +kernel)
theorem q_ld4 : q_opd 358 2 32 36 = true := by decide +kernel
theorem q_ln4 : (Nat.beq (q_np 83) 2 && (Nat.beq (q_np 117) 2 && (Nat.beq (q_kn 83) 1 && (Nat.beq (q_kn 117) 1 && (Nat.beq (q_on 83) 8 && (Nat.beq (q_on 117) 9 && (Nat.ble (2 + 1) (q_ml 83) && Nat.ble (2 + 1) (q_ml 117)))))))) = true := by decide +kernel
theorem q_lk5_1 : Cond.methodLink R_law 37 (q_y 15) ∈ lw_tbl := List.mem_of_getElem? (i := 800) (by decide +kernel)
theorem q_lk5_2 : Cond.methodLink R_law 40 (q_y 17) ∈ lw_tbl := List.mem_of_getElem? (i := 1606) (by decide +kernel)
theorem q_ld5 : q_opd 391 2 37 40 = true := by decide +kernel
theorem q_ln5 : (Nat.beq (q_np 15) 2 && (Nat.beq (q_np 17) 2 && (Nat.beq (q_kn 15) 1 && (Nat.beq (q_kn 17) 1 && (Nat.beq (q_on 15) 8 && (Nat.beq (q_on 17) 9 && (Nat.ble (2 + 1) (q_ml 15) && Nat.ble (2 + 1) (q_ml 17)))))))) = true := by decide +kernel
theorem q_lk6_1 : Cond.methodLink R_law 41 (q_y 84) ∈ lw_tbl := List.mem_of_getElem? (i := 829) (by decide +kernel)
theorem q_lk6_2 : Cond.methodLink R_law 44 (q_y 118) ∈ lw_tbl := List.mem_of_getElem? (i := 1633) (by decide +kernel)
theorem q_ld6 : q_opd 424 2 41 44 = true := by decide +kernel
theorem q_ln6 : (Nat.beq (q_np 84) 2 && (Nat.beq (q_np 118) 2 && (Nat.beq (q_kn 84) 1 && (Nat.beq (q_kn 118) 1 && (Nat.beq (q_on 84) 8 && (Nat.beq (q_on 118) 9 && (Nat.ble (2 + 1) (q_ml 84) && Nat.ble (2 + 1) (q_ml 118)))))))) = true := by decide +kernel
theorem q_lk7_1 : Cond.methodLink R_law 45 (q_y 85) ∈ lw_tbl := List.mem_of_getElem? (i := 840) (by decide +kernel)
theorem q_lk7_2 : Cond.methodLink R_law 48 (q_y 119) ∈ lw_tbl := List.mem_of_getElem? (i := 1641) (by decide +kernel)
theorem q_ld7 : q_opd 457 2 45 48 = true := by decide +kernel
theorem q_ln7 : (Nat.beq (q_np 85) 2 && (Nat.beq (q_np 119) 2 && (Nat.beq (q_kn 85) 1 && (Nat.beq (q_kn 119) 1 && (Nat.beq (q_on 85) 8 && (Nat.beq (q_on 119) 9 && (Nat.ble (2 + 1) (q_ml 85) && Nat.ble (2 + 1) (q_ml 119)))))))) = true := by decide +kernel
theorem q_lk8_1 : Cond.methodLink R_law 49 (q_y 46) ∈ lw_tbl := List.mem_of_getElem? (i := 844) (by decide +kernel)
theorem q_lk8_2 : Cond.methodLink R_law 52 (q_y 55) ∈ lw_tbl := List.mem_of_getElem? (i := 1645) (by decide +kernel)
theorem q_ld8 : q_opd 490 0 49 52 = true := by decide +kernel
theorem q_ln8 : (Nat.beq (q_np 46) 0 && (Nat.beq (q_np 55) 0 && (Nat.beq (q_kn 46) 1 && (Nat.beq (q_kn 55) 1 && (Nat.beq (q_on 46) 8 && (Nat.beq (q_on 55) 9 && (Nat.ble (0 + 1) (q_ml 46) && Nat.ble (0 + 1) (q_ml 55)))))))) = true := by decide +kernel
theorem q_lk9_1 : Cond.methodLink R_law 53 (q_y 86) ∈ lw_tbl := List.mem_of_getElem? (i := 853) (by decide +kernel)
theorem q_lk9_2 : Cond.methodLink R_law 56 (q_y 120) ∈ lw_tbl := List.mem_of_getElem? (i := 1656) (by decide +kernel)
theorem q_ld9 : q_opd 503 2 53 56 = true := by decide +kernel
theorem q_ln9 : (Nat.beq (q_np 86) 2 && (Nat.beq (q_np 120) 2 && (Nat.beq (q_kn 86) 1 && (Nat.beq (q_kn 120) 1 && (Nat.beq (q_on 86) 8 && (Nat.beq (q_on 120) 9 && (Nat.ble (2 + 1) (q_ml 86) && Nat.ble (2 + 1) (q_ml 120)))))))) = true := by decide +kernel
theorem q_lk10_1 : Cond.methodLink R_law 57 (q_y 163) ∈ lw_tbl := List.mem_of_getElem? (i := 871) (by decide +kernel)
theorem q_lk10_2 : Cond.methodLink R_law 60 (q_y 165) ∈ lw_tbl := List.mem_of_getElem? (i := 1672) (by decide +kernel)
theorem q_ld10 : q_opd 536 0 57 60 = true := by decide +kernel
theorem q_ln10 : (Nat.beq (q_np 163) 0 && (Nat.beq (q_np 165) 0 && (Nat.beq (q_kn 163) 1 && (Nat.beq (q_kn 165) 1 && (Nat.beq (q_on 163) 8 && (Nat.beq (q_on 165) 9 && (Nat.ble (0 + 1) (q_ml 163) && Nat.ble (0 + 1) (q_ml 165)))))))) = true := by decide +kernel
theorem q_lk11_1 : Cond.methodLink R_law 61 (q_y 167) ∈ lw_tbl := List.mem_of_getElem? (i := 879) (by decide +kernel)
theorem q_lk11_2 : Cond.methodLink R_law 64 (q_y 169) ∈ lw_tbl := List.mem_of_getElem? (i := 1680) (by decide +kernel)
theorem q_ld11 : q_opd 549 0 61 64 = true := by decide +kernel
theorem q_ln11 : (Nat.beq (q_np 167) 0 && (Nat.beq (q_np 169) 0 && (Nat.beq (q_kn 167) 1 && (Nat.beq (q_kn 169) 1 && (Nat.beq (q_on 167) 8 && (Nat.beq (q_on 169) 9 && (Nat.ble (0 + 1) (q_ml 167) && Nat.ble (0 + 1) (q_ml 169)))))))) = true := by decide +kernel
theorem q_lk12_1 : Cond.methodLink R_law 65 (q_y 170) ∈ lw_tbl := List.mem_of_getElem? (i := 888) (by decide +kernel)
theorem q_lk12_2 : Cond.methodLink R_law 69 (q_y 171) ∈ lw_tbl := List.mem_of_getElem? (i := 1684) (by decide +kernel)
theorem q_ld12 : q_opd 562 0 65 69 = true := by decide +kernel
theorem q_ln12 : (Nat.beq (q_np 170) 0 && (Nat.beq (q_np 171) 0 && (Nat.beq (q_kn 170) 1 && (Nat.beq (q_kn 171) 1 && (Nat.beq (q_on 170) 8 && (Nat.beq (q_on 171) 9 && (Nat.ble (0 + 1) (q_ml 170) && Nat.ble (0 + 1) (q_ml 171)))))))) = true := by decide +kernel
theorem q_lk13_1 : Cond.methodLink R_law 70 (q_y 172) ∈ lw_tbl := List.mem_of_getElem? (i := 903) (by decide +kernel)
theorem q_lk13_2 : Cond.methodLink R_law 73 (q_y 173) ∈ lw_tbl := List.mem_of_getElem? (i := 1692) (by decide +kernel)
theorem q_ld13 : q_opd 575 0 70 73 = true := by decide +kernel
theorem q_ln13 : (Nat.beq (q_np 172) 0 && (Nat.beq (q_np 173) 0 && (Nat.beq (q_kn 172) 1 && (Nat.beq (q_kn 173) 1 && (Nat.beq (q_on 172) 8 && (Nat.beq (q_on 173) 9 && (Nat.ble (0 + 1) (q_ml 172) && Nat.ble (0 + 1) (q_ml 173)))))))) = true := by decide +kernel
theorem q_lk14_1 : Cond.methodLink R_law 74 (q_y 87) ∈ lw_tbl := List.mem_of_getElem? (i := 911) (by decide +kernel)
theorem q_lk14_2 : Cond.methodLink R_law 77 (q_y 123) ∈ lw_tbl := List.mem_of_getElem? (i := 1700) (by decide +kernel)
theorem q_ld14 : q_opd 588 2 74 77 = true := by decide +kernel
theorem q_ln14 : (Nat.beq (q_np 87) 2 && (Nat.beq (q_np 123) 2 && (Nat.beq (q_kn 87) 1 && (Nat.beq (q_kn 123) 1 && (Nat.beq (q_on 87) 8 && (Nat.beq (q_on 123) 9 && (Nat.ble (2 + 1) (q_ml 87) && Nat.ble (2 + 1) (q_ml 123)))))))) = true := by decide +kernel
theorem q_lk15_1 : Cond.methodLink R_law 78 (q_y 88) ∈ lw_tbl := List.mem_of_getElem? (i := 933) (by decide +kernel)
theorem q_lk15_2 : Cond.methodLink R_law 81 (q_y 124) ∈ lw_tbl := List.mem_of_getElem? (i := 1716) (by decide +kernel)
theorem q_ld15 : q_opd 621 2 78 81 = true := by decide +kernel
theorem q_ln15 : (Nat.beq (q_np 88) 2 && (Nat.beq (q_np 124) 2 && (Nat.beq (q_kn 88) 1 && (Nat.beq (q_kn 124) 1 && (Nat.beq (q_on 88) 8 && (Nat.beq (q_on 124) 9 && (Nat.ble (2 + 1) (q_ml 88) && Nat.ble (2 + 1) (q_ml 124)))))))) = true := by decide +kernel
theorem q_lk16_1 : Cond.methodLink R_law 82 (q_y 89) ∈ lw_tbl := List.mem_of_getElem? (i := 945) (by decide +kernel)
theorem q_lk16_2 : Cond.methodLink R_law 86 (q_y 125) ∈ lw_tbl := List.mem_of_getElem? (i := 1720) (by decide +kernel)
theorem q_ld16 : q_opd 654 3 82 86 = true := by decide +kernel
theorem q_ln16 : (Nat.beq (q_np 89) 3 && (Nat.beq (q_np 125) 3 && (Nat.beq (q_kn 89) 1 && (Nat.beq (q_kn 125) 1 && (Nat.beq (q_on 89) 8 && (Nat.beq (q_on 125) 9 && (Nat.ble (3 + 1) (q_ml 89) && Nat.ble (3 + 1) (q_ml 125)))))))) = true := by decide +kernel
theorem q_lk17_1 : Cond.methodLink R_law 87 (q_y 90) ∈ lw_tbl := List.mem_of_getElem? (i := 956) (by decide +kernel)
theorem q_lk17_2 : Cond.methodLink R_law 90 (q_y 126) ∈ lw_tbl := List.mem_of_getElem? (i := 1724) (by decide +kernel)
theorem q_ld17 : q_opd 697 2 87 90 = true := by decide +kernel
theorem q_ln17 : (Nat.beq (q_np 90) 2 && (Nat.beq (q_np 126) 2 && (Nat.beq (q_kn 90) 1 && (Nat.beq (q_kn 126) 1 && (Nat.beq (q_on 90) 8 && (Nat.beq (q_on 126) 9 && (Nat.ble (2 + 1) (q_ml 90) && Nat.ble (2 + 1) (q_ml 126)))))))) = true := by decide +kernel
theorem q_lk18_1 : Cond.methodLink R_law 91 (q_y 174) ∈ lw_tbl := List.mem_of_getElem? (i := 962) (by decide +kernel)
theorem q_lk18_2 : Cond.methodLink R_law 94 (q_y 177) ∈ lw_tbl := List.mem_of_getElem? (i := 1728) (by decide +kernel)
theorem q_ld18 : q_opd 730 0 91 94 = true := by decide +kernel
theorem q_ln18 : (Nat.beq (q_np 174) 0 && (Nat.beq (q_np 177) 0 && (Nat.beq (q_kn 174) 1 && (Nat.beq (q_kn 177) 1 && (Nat.beq (q_on 174) 8 && (Nat.beq (q_on 177) 9 && (Nat.ble (0 + 1) (q_ml 174) && Nat.ble (0 + 1) (q_ml 177)))))))) = true := by decide +kernel
theorem q_lk19_1 : Cond.methodLink R_law 95 (q_y 91) ∈ lw_tbl := List.mem_of_getElem? (i := 974) (by decide +kernel)
theorem q_lk19_2 : Cond.methodLink R_law 98 (q_y 128) ∈ lw_tbl := List.mem_of_getElem? (i := 1740) (by decide +kernel)
theorem q_ld19 : q_opd 743 3 95 98 = true := by decide +kernel
theorem q_ln19 : (Nat.beq (q_np 91) 3 && (Nat.beq (q_np 128) 3 && (Nat.beq (q_kn 91) 1 && (Nat.beq (q_kn 128) 1 && (Nat.beq (q_on 91) 8 && (Nat.beq (q_on 128) 9 && (Nat.ble (3 + 1) (q_ml 91) && Nat.ble (3 + 1) (q_ml 128)))))))) = true := by decide +kernel
theorem q_lk20_1 : Cond.methodLink R_law 99 (q_y 92) ∈ lw_tbl := List.mem_of_getElem? (i := 981) (by decide +kernel)
theorem q_lk20_2 : Cond.methodLink R_law 102 (q_y 129) ∈ lw_tbl := List.mem_of_getElem? (i := 1744) (by decide +kernel)
theorem q_ld20 : q_opd 786 2 99 102 = true := by decide +kernel
theorem q_ln20 : (Nat.beq (q_np 92) 2 && (Nat.beq (q_np 129) 2 && (Nat.beq (q_kn 92) 1 && (Nat.beq (q_kn 129) 1 && (Nat.beq (q_on 92) 8 && (Nat.beq (q_on 129) 9 && (Nat.ble (2 + 1) (q_ml 92) && Nat.ble (2 + 1) (q_ml 129)))))))) = true := by decide +kernel
theorem q_lk21_1 : Cond.methodLink R_law 103 (q_y 66) ∈ lw_tbl := List.mem_of_getElem? (i := 993) (by decide +kernel)
theorem q_lk21_2 : Cond.methodLink R_law 106 (q_y 67) ∈ lw_tbl := List.mem_of_getElem? (i := 1752) (by decide +kernel)
theorem q_ld21 : q_opd 819 3 103 106 = true := by decide +kernel
theorem q_ln21 : (Nat.beq (q_np 66) 3 && (Nat.beq (q_np 67) 3 && (Nat.beq (q_kn 66) 1 && (Nat.beq (q_kn 67) 1 && (Nat.beq (q_on 66) 8 && (Nat.beq (q_on 67) 9 && (Nat.ble (3 + 1) (q_ml 66) && Nat.ble (3 + 1) (q_ml 67)))))))) = true := by decide +kernel
theorem q_lk22_1 : Cond.methodLink R_law 107 (q_y 93) ∈ lw_tbl := List.mem_of_getElem? (i := 1005) (by decide +kernel)
theorem q_lk22_2 : Cond.methodLink R_law 110 (q_y 130) ∈ lw_tbl := List.mem_of_getElem? (i := 1736) (by decide +kernel)
theorem q_ld22 : q_opd 862 1 107 110 = true := by decide +kernel
theorem q_ln22 : (Nat.beq (q_np 93) 1 && (Nat.beq (q_np 130) 1 && (Nat.beq (q_kn 93) 1 && (Nat.beq (q_kn 130) 1 && (Nat.beq (q_on 93) 8 && (Nat.beq (q_on 130) 9 && (Nat.ble (1 + 1) (q_ml 93) && Nat.ble (1 + 1) (q_ml 130)))))))) = true := by decide +kernel
theorem q_lk23_1 : Cond.methodLink R_law 111 (q_y 94) ∈ lw_tbl := List.mem_of_getElem? (i := 1009) (by decide +kernel)
theorem q_lk23_2 : Cond.methodLink R_law 114 (q_y 131) ∈ lw_tbl := List.mem_of_getElem? (i := 1764) (by decide +kernel)
theorem q_ld23 : q_opd 885 2 111 114 = true := by decide +kernel
theorem q_ln23 : (Nat.beq (q_np 94) 2 && (Nat.beq (q_np 131) 2 && (Nat.beq (q_kn 94) 1 && (Nat.beq (q_kn 131) 1 && (Nat.beq (q_on 94) 8 && (Nat.beq (q_on 131) 9 && (Nat.ble (2 + 1) (q_ml 94) && Nat.ble (2 + 1) (q_ml 131)))))))) = true := by decide +kernel
theorem q_lk24_1 : Cond.methodLink R_law 115 (q_y 95) ∈ lw_tbl := List.mem_of_getElem? (i := 1022) (by decide +kernel)
theorem q_lk24_2 : Cond.methodLink R_law 118 (q_y 132) ∈ lw_tbl := List.mem_of_getElem? (i := 1772) (by decide +kernel)
theorem q_ld24 : q_opd 918 2 115 118 = true := by decide +kernel
theorem q_ln24 : (Nat.beq (q_np 95) 2 && (Nat.beq (q_np 132) 2 && (Nat.beq (q_kn 95) 1 && (Nat.beq (q_kn 132) 1 && (Nat.beq (q_on 95) 8 && (Nat.beq (q_on 132) 9 && (Nat.ble (2 + 1) (q_ml 95) && Nat.ble (2 + 1) (q_ml 132)))))))) = true := by decide +kernel
theorem q_lk25_1 : Cond.methodLink R_law 119 (q_y 96) ∈ lw_tbl := List.mem_of_getElem? (i := 1026) (by decide +kernel)
theorem q_lk25_2 : Cond.methodLink R_law 122 (q_y 133) ∈ lw_tbl := List.mem_of_getElem? (i := 1776) (by decide +kernel)
theorem q_ld25 : q_opd 951 1 119 122 = true := by decide +kernel
theorem q_ln25 : (Nat.beq (q_np 96) 1 && (Nat.beq (q_np 133) 1 && (Nat.beq (q_kn 96) 1 && (Nat.beq (q_kn 133) 1 && (Nat.beq (q_on 96) 8 && (Nat.beq (q_on 133) 9 && (Nat.ble (1 + 1) (q_ml 96) && Nat.ble (1 + 1) (q_ml 133)))))))) = true := by decide +kernel
theorem q_lk26_1 : Cond.methodLink R_law 123 (q_y 61) ∈ lw_tbl := List.mem_of_getElem? (i := 1035) (by decide +kernel)
theorem q_lk26_2 : Cond.methodLink R_law 126 (q_y 71) ∈ lw_tbl := List.mem_of_getElem? (i := 1784) (by decide +kernel)
theorem q_ld26 : q_opd 974 1 123 126 = true := by decide +kernel
theorem q_ln26 : (Nat.beq (q_np 61) 1 && (Nat.beq (q_np 71) 1 && (Nat.beq (q_kn 61) 1 && (Nat.beq (q_kn 71) 1 && (Nat.beq (q_on 61) 8 && (Nat.beq (q_on 71) 9 && (Nat.ble (1 + 1) (q_ml 61) && Nat.ble (1 + 1) (q_ml 71)))))))) = true := by decide +kernel
theorem q_lk27_1 : Cond.methodLink R_law 127 (q_y 33) ∈ lw_tbl := List.mem_of_getElem? (i := 1039) (by decide +kernel)
theorem q_lk27_2 : Cond.methodLink R_law 130 (q_y 51) ∈ lw_tbl := List.mem_of_getElem? (i := 1788) (by decide +kernel)
theorem q_ld27 : q_opd 997 2 127 130 = true := by decide +kernel
theorem q_ln27 : (Nat.beq (q_np 33) 2 && (Nat.beq (q_np 51) 2 && (Nat.beq (q_kn 33) 1 && (Nat.beq (q_kn 51) 1 && (Nat.beq (q_on 33) 8 && (Nat.beq (q_on 51) 9 && (Nat.ble (2 + 1) (q_ml 33) && Nat.ble (2 + 1) (q_ml 51)))))))) = true := by decide +kernel
theorem q_lk28_1 : Cond.methodLink R_law 131 (q_y 75) ∈ lw_tbl := List.mem_of_getElem? (i := 1050) (by decide +kernel)
theorem q_lk28_2 : Cond.methodLink R_law 134 (q_y 76) ∈ lw_tbl := List.mem_of_getElem? (i := 1808) (by decide +kernel)
theorem q_ld28 : q_opd 1030 2 131 134 = true := by decide +kernel
theorem q_ln28 : (Nat.beq (q_np 75) 2 && (Nat.beq (q_np 76) 2 && (Nat.beq (q_kn 75) 1 && (Nat.beq (q_kn 76) 1 && (Nat.beq (q_on 75) 8 && (Nat.beq (q_on 76) 9 && (Nat.ble (2 + 1) (q_ml 75) && Nat.ble (2 + 1) (q_ml 76)))))))) = true := by decide +kernel
theorem q_lk29_1 : Cond.methodLink R_law 135 (q_y 181) ∈ lw_tbl := List.mem_of_getElem? (i := 1059) (by decide +kernel)
theorem q_lk29_2 : Cond.methodLink R_law 138 (q_y 183) ∈ lw_tbl := List.mem_of_getElem? (i := 1812) (by decide +kernel)
theorem q_ld29 : q_opd 1063 0 135 138 = true := by decide +kernel
theorem q_ln29 : (Nat.beq (q_np 181) 0 && (Nat.beq (q_np 183) 0 && (Nat.beq (q_kn 181) 1 && (Nat.beq (q_kn 183) 1 && (Nat.beq (q_on 181) 8 && (Nat.beq (q_on 183) 9 && (Nat.ble (0 + 1) (q_ml 181) && Nat.ble (0 + 1) (q_ml 183)))))))) = true := by decide +kernel
theorem q_lk30_1 : Cond.methodLink R_law 139 (q_y 52) ∈ lw_tbl := List.mem_of_getElem? (i := 1071) (by decide +kernel)
theorem q_lk30_2 : Cond.methodLink R_law 142 (q_y 97) ∈ lw_tbl := List.mem_of_getElem? (i := 1820) (by decide +kernel)
theorem q_ld30 : q_opd 1076 1 139 142 = true := by decide +kernel
theorem q_ln30 : (Nat.beq (q_np 52) 1 && (Nat.beq (q_np 97) 1 && (Nat.beq (q_kn 52) 1 && (Nat.beq (q_kn 97) 1 && (Nat.beq (q_on 52) 8 && (Nat.beq (q_on 97) 9 && (Nat.ble (1 + 1) (q_ml 52) && Nat.ble (1 + 1) (q_ml 97)))))))) = true := by decide +kernel
theorem q_lk31_1 : Cond.methodLink R_law 143 (q_y 73) ∈ lw_tbl := List.mem_of_getElem? (i := 1078) (by decide +kernel)
theorem q_lk31_2 : Cond.methodLink R_law 147 (q_y 74) ∈ lw_tbl := List.mem_of_getElem? (i := 1828) (by decide +kernel)
theorem q_ld31 : q_opd 1099 4 143 147 = true := by decide +kernel
theorem q_ln31 : (Nat.beq (q_np 73) 4 && (Nat.beq (q_np 74) 4 && (Nat.beq (q_kn 73) 1 && (Nat.beq (q_kn 74) 1 && (Nat.beq (q_on 73) 8 && (Nat.beq (q_on 74) 9 && (Nat.ble (4 + 1) (q_ml 73) && Nat.ble (4 + 1) (q_ml 74)))))))) = true := by decide +kernel
theorem q_lk32_1 : Cond.methodLink R_law 148 (q_y 98) ∈ lw_tbl := List.mem_of_getElem? (i := 1089) (by decide +kernel)
theorem q_lk32_2 : Cond.methodLink R_law 151 (q_y 135) ∈ lw_tbl := List.mem_of_getElem? (i := 1832) (by decide +kernel)
theorem q_ld32 : q_opd 1152 2 148 151 = true := by decide +kernel
theorem q_ln32 : (Nat.beq (q_np 98) 2 && (Nat.beq (q_np 135) 2 && (Nat.beq (q_kn 98) 1 && (Nat.beq (q_kn 135) 1 && (Nat.beq (q_on 98) 8 && (Nat.beq (q_on 135) 9 && (Nat.ble (2 + 1) (q_ml 98) && Nat.ble (2 + 1) (q_ml 135)))))))) = true := by decide +kernel
theorem q_lk33_1 : Cond.methodLink R_law 152 (q_y 30) ∈ lw_tbl := List.mem_of_getElem? (i := 1105) (by decide +kernel)
theorem q_lk33_2 : Cond.methodLink R_law 155 (q_y 48) ∈ lw_tbl := List.mem_of_getElem? (i := 1800) (by decide +kernel)
theorem q_ld33 : q_opd 1185 2 152 155 = true := by decide +kernel
theorem q_ln33 : (Nat.beq (q_np 30) 2 && (Nat.beq (q_np 48) 2 && (Nat.beq (q_kn 30) 1 && (Nat.beq (q_kn 48) 1 && (Nat.beq (q_on 30) 8 && (Nat.beq (q_on 48) 9 && (Nat.ble (2 + 1) (q_ml 30) && Nat.ble (2 + 1) (q_ml 48)))))))) = true := by decide +kernel
theorem q_lk34_1 : Cond.methodLink R_law 156 (q_y 105) ∈ lw_tbl := List.mem_of_getElem? (i := 1109) (by decide +kernel)
theorem q_lk34_2 : Cond.methodLink R_law 159 (q_y 106) ∈ lw_tbl := List.mem_of_getElem? (i := 1804) (by decide +kernel)
theorem q_ld34 : q_opd 1218 1 156 159 = true := by decide +kernel
theorem q_ln34 : (Nat.beq (q_np 105) 1 && (Nat.beq (q_np 106) 1 && (Nat.beq (q_kn 105) 1 && (Nat.beq (q_kn 106) 1 && (Nat.beq (q_on 105) 8 && (Nat.beq (q_on 106) 9 && (Nat.ble (1 + 1) (q_ml 105) && Nat.ble (1 + 1) (q_ml 106)))))))) = true := by decide +kernel
theorem q_lk35_1 : Cond.methodLink R_law 160 (q_y 184) ∈ lw_tbl := List.mem_of_getElem? (i := 1117) (by decide +kernel)
theorem q_lk35_2 : Cond.methodLink R_law 163 (q_y 185) ∈ lw_tbl := List.mem_of_getElem? (i := 1649) (by decide +kernel)
theorem q_ld35 : q_opd 1241 0 160 163 = true := by decide +kernel
theorem q_ln35 : (Nat.beq (q_np 184) 0 && (Nat.beq (q_np 185) 0 && (Nat.beq (q_kn 184) 1 && (Nat.beq (q_kn 185) 1 && (Nat.beq (q_on 184) 8 && (Nat.beq (q_on 185) 9 && (Nat.ble (0 + 1) (q_ml 184) && Nat.ble (0 + 1) (q_ml 185)))))))) = true := by decide +kernel
theorem q_lk36_1 : Cond.methodLink R_law 164 (q_y 99) ∈ lw_tbl := List.mem_of_getElem? (i := 1121) (by decide +kernel)
theorem q_lk36_2 : Cond.methodLink R_law 167 (q_y 136) ∈ lw_tbl := List.mem_of_getElem? (i := 1696) (by decide +kernel)
theorem q_ld36 : q_opd 1254 1 164 167 = true := by decide +kernel
theorem q_ln36 : (Nat.beq (q_np 99) 1 && (Nat.beq (q_np 136) 1 && (Nat.beq (q_kn 99) 1 && (Nat.beq (q_kn 136) 1 && (Nat.beq (q_on 99) 8 && (Nat.beq (q_on 136) 9 && (Nat.ble (1 + 1) (q_ml 99) && Nat.ble (1 + 1) (q_ml 136)))))))) = true := by decide +kernel
theorem q_lk37_1 : Cond.methodLink R_law 168 (q_y 27) ∈ lw_tbl := List.mem_of_getElem? (i := 1125) (by decide +kernel)
theorem q_lk37_2 : Cond.methodLink R_law 172 (q_y 31) ∈ lw_tbl := List.mem_of_getElem? (i := 1848) (by decide +kernel)
theorem q_lk38_1 : Cond.methodLink R_law 173 (q_y 28) ∈ lw_tbl := List.mem_of_getElem? (i := 1133) (by decide +kernel)
theorem q_lk38_2 : Cond.methodLink R_law 176 (q_y 32) ∈ lw_tbl := List.mem_of_getElem? (i := 1856) (by decide +kernel)
theorem q_lk39_1 : Cond.methodLink R_law 177 (q_y 100) ∈ lw_tbl := List.mem_of_getElem? (i := 1141) (by decide +kernel)
theorem q_lk39_2 : Cond.methodLink R_law 181 (q_y 137) ∈ lw_tbl := List.mem_of_getElem? (i := 1860) (by decide +kernel)
theorem q_ld39 : q_opd 1395 1 177 181 = true := by decide +kernel
theorem q_ln39 : (Nat.beq (q_np 100) 1 && (Nat.beq (q_np 137) 1 && (Nat.beq (q_kn 100) 1 && (Nat.beq (q_kn 137) 1 && (Nat.beq (q_on 100) 8 && (Nat.beq (q_on 137) 9 && (Nat.ble (1 + 1) (q_ml 100) && Nat.ble (1 + 1) (q_ml 137)))))))) = true := by decide +kernel
theorem q_lk40_1 : Cond.methodLink R_law 182 (q_y 103) ∈ lw_tbl := List.mem_of_getElem? (i := 1149) (by decide +kernel)
theorem q_lk40_2 : Cond.methodLink R_law 185 (q_y 104) ∈ lw_tbl := List.mem_of_getElem? (i := 1864) (by decide +kernel)
theorem q_ld40 : q_opd 1418 1 182 185 = true := by decide +kernel
theorem q_ln40 : (Nat.beq (q_np 103) 1 && (Nat.beq (q_np 104) 1 && (Nat.beq (q_kn 103) 1 && (Nat.beq (q_kn 104) 1 && (Nat.beq (q_on 103) 8 && (Nat.beq (q_on 104) 9 && (Nat.ble (1 + 1) (q_ml 103) && Nat.ble (1 + 1) (q_ml 104)))))))) = true := by decide +kernel
theorem q_lk41_1 : Cond.methodLink R_law 186 (q_y 186) ∈ lw_tbl := List.mem_of_getElem? (i := 1154) (by decide +kernel)
theorem q_lk41_2 : Cond.methodLink R_law 189 (q_y 187) ∈ lw_tbl := List.mem_of_getElem? (i := 1869) (by decide +kernel)
theorem q_ld41 : q_opd 1441 1 186 189 = true := by decide +kernel
theorem q_ln41 : (Nat.beq (q_np 186) 1 && (Nat.beq (q_np 187) 1 && (Nat.beq (q_kn 186) 1 && (Nat.beq (q_kn 187) 1 && (Nat.beq (q_on 186) 8 && (Nat.beq (q_on 187) 9 && (Nat.ble (1 + 1) (q_ml 186) && Nat.ble (1 + 1) (q_ml 187)))))))) = true := by decide +kernel
theorem q_lk42_1 : Cond.methodLink R_law 190 (q_y 188) ∈ lw_tbl := List.mem_of_getElem? (i := 1179) (by decide +kernel)
theorem q_lk42_2 : Cond.methodLink R_law 193 (q_y 190) ∈ lw_tbl := List.mem_of_getElem? (i := 1889) (by decide +kernel)
theorem q_ld42 : q_opd 1464 2 190 193 = true := by decide +kernel
theorem q_ln42 : (Nat.beq (q_np 188) 2 && (Nat.beq (q_np 190) 2 && (Nat.beq (q_kn 188) 1 && (Nat.beq (q_kn 190) 1 && (Nat.beq (q_on 188) 8 && (Nat.beq (q_on 190) 9 && (Nat.ble (2 + 1) (q_ml 188) && Nat.ble (2 + 1) (q_ml 190)))))))) = true := by decide +kernel
theorem q_lk43_1 : Cond.methodLink R_law 194 (q_y 140) ∈ lw_tbl := List.mem_of_getElem? (i := 1192) (by decide +kernel)
theorem q_lk43_2 : Cond.methodLink R_law 197 (q_y 141) ∈ lw_tbl := List.mem_of_getElem? (i := 1893) (by decide +kernel)
theorem q_ld43 : q_opd 1497 2 194 197 = true := by decide +kernel
theorem q_ln43 : (Nat.beq (q_np 140) 2 && (Nat.beq (q_np 141) 2 && (Nat.beq (q_kn 140) 1 && (Nat.beq (q_kn 141) 1 && (Nat.beq (q_on 140) 8 && (Nat.beq (q_on 141) 9 && (Nat.ble (2 + 1) (q_ml 140) && Nat.ble (2 + 1) (q_ml 141)))))))) = true := by decide +kernel
theorem q_lk44_1 : Cond.methodLink R_law 198 (q_y 57) ∈ lw_tbl := List.mem_of_getElem? (i := 1201) (by decide +kernel)
theorem q_lk44_2 : Cond.methodLink R_law 201 (q_y 68) ∈ lw_tbl := List.mem_of_getElem? (i := 1897) (by decide +kernel)
theorem q_ld44 : q_opd 1530 1 198 201 = true := by decide +kernel
theorem q_ln44 : (Nat.beq (q_np 57) 1 && (Nat.beq (q_np 68) 1 && (Nat.beq (q_kn 57) 1 && (Nat.beq (q_kn 68) 1 && (Nat.beq (q_on 57) 8 && (Nat.beq (q_on 68) 9 && (Nat.ble (1 + 1) (q_ml 57) && Nat.ble (1 + 1) (q_ml 68)))))))) = true := by decide +kernel
theorem q_lk45_1 : Cond.methodLink R_law 202 (q_y 58) ∈ lw_tbl := List.mem_of_getElem? (i := 1206) (by decide +kernel)
theorem q_lk45_2 : Cond.methodLink R_law 205 (q_y 69) ∈ lw_tbl := List.mem_of_getElem? (i := 1901) (by decide +kernel)
theorem q_ld45 : q_opd 1553 1 202 205 = true := by decide +kernel
theorem q_ln45 : (Nat.beq (q_np 58) 1 && (Nat.beq (q_np 69) 1 && (Nat.beq (q_kn 58) 1 && (Nat.beq (q_kn 69) 1 && (Nat.beq (q_on 58) 8 && (Nat.beq (q_on 69) 9 && (Nat.ble (1 + 1) (q_ml 58) && Nat.ble (1 + 1) (q_ml 69)))))))) = true := by decide +kernel
theorem q_lk46_1 : Cond.methodLink R_law 206 (q_y 40) ∈ lw_tbl := List.mem_of_getElem? (i := 1210) (by decide +kernel)
theorem q_lk46_2 : Cond.methodLink R_law 209 (q_y 43) ∈ lw_tbl := List.mem_of_getElem? (i := 1905) (by decide +kernel)
theorem q_ld46 : q_opd 1576 1 206 209 = true := by decide +kernel
theorem q_ln46 : (Nat.beq (q_np 40) 1 && (Nat.beq (q_np 43) 1 && (Nat.beq (q_kn 40) 1 && (Nat.beq (q_kn 43) 1 && (Nat.beq (q_on 40) 8 && (Nat.beq (q_on 43) 9 && (Nat.ble (1 + 1) (q_ml 40) && Nat.ble (1 + 1) (q_ml 43)))))))) = true := by decide +kernel
theorem q_lkx : Cond.methodLink R_law 9 (q_y 142) ∈ lw_tbl := List.mem_of_getElem? (i := 128) (by decide +kernel)
theorem q_lky : Cond.methodLink R_law 12 (q_y 148) ∈ lw_tbl := List.mem_of_getElem? (i := 1216) (by decide +kernel)
theorem q_lcx : Cond.classLink R_law 7 "SandNights" ∈ lw_tbl := List.mem_of_getElem? (i := 126) (by decide +kernel)
theorem q_lcy : Cond.classLink R_law 10 "SandNightsModel" ∈ lw_tbl := List.mem_of_getElem? (i := 1214) (by decide +kernel)
theorem q_nst_w : ∀ t ∈ q_nest.zip [136, 192, 198, 280, 330, 380, 403, 427, 465, 468, 725, 726, 799, 861, 870, 925, 989, 1058, 1097, 1173, 1174, 1191], lw_tbl[t.2]? = some (Cond.methodLinkNest t.1.1 t.1.2.1 t.1.2.2.1 t.1.2.2.2) := by decide +kernel
theorem q_aov_w : Cond.arrayOver (.object "SandNights$Sand") ∈ lw_tbl := List.mem_of_getElem? (i := 385) (by decide +kernel)
theorem q_X_of {s : State} {b : Nat} (hts : ∀ w ∈ lw_tbl, w.before #[Value.ref b] s = true) : q_X s := by
  refine ⟨fun w hw => ?_, va_AO.of (hts _ q_aov_w)⟩
  obtain ⟨k, hk⟩ := List.getElem?_of_mem hw
  have hlt : k < q_nest.length := (List.getElem?_eq_some_iff.mp hk).1
  obtain ⟨t, ht, ht1⟩ : ∃ t ∈ q_nest.zip [136, 192, 198, 280, 330, 380, 403, 427, 465, 468, 725, 726, 799, 861, 870, 925, 989, 1058, 1097, 1173, 1174, 1191], t.1 = w := by
    have hl : k < ([136, 192, 198, 280, 330, 380, 403, 427, 465, 468, 725, 726, 799, 861, 870, 925, 989, 1058, 1097, 1173, 1174, 1191] : List Nat).length := hlt
    refine ⟨(w, ([136, 192, 198, 280, 330, 380, 403, 427, 465, 468, 725, 726, 799, 861, 870, 925, 989, 1058, 1097, 1173, 1174, 1191] : List Nat)[k]), ?_, rfl⟩
    apply List.mem_of_getElem? (i := k)
    rw [List.getElem?_zip_eq_some]
    exact ⟨hk, List.getElem?_eq_getElem hl⟩
  have := q_nst_w t ht
  rw [ht1] at this
  exact va_Nw.of rfl (hts _ (List.mem_of_getElem? this))
theorem q_dis {s : State} {b : Nat} (hts : ∀ w ∈ lw_tbl, w.before #[Value.ref b] s = true) : ∃ D : va_G, va_K D q_cls [] s := by
  have h1 : ∀ k : Nat, ∃ (cC : ClassId) (iS : Nat → Nat), ∀ r : vw_C, q_cls[k]? = some r → u_Kn s r.1 r.2.1 r.2.2 cC iS := by
    intro k
    cases hr : q_cls[k]? with
    | none => exact ⟨(0 : Nat), fun _ => 0, fun r h => by cases h⟩
    | some r =>
      have hk : k < 10 := (List.getElem?_eq_some_iff.mp hr).1
      have e := Option.some.inj (hr.symm.trans (q_cls_at k hk))
      have hin : ∀ w ∈ u_ws r.1 r.2.1 r.2.2, w ∈ lw_tbl := fun w hw => (List.mem_filter.mp ((q_clok_ok k r hr).1 w hw)).1
      have hi : (Cond.instantiable r.1 r.2.2).before #[Value.ref b] s = true := by
        have := q_wat_ok (q_cw k hk).1
        rw [← e] at this
        exact hts _ (List.mem_filter.mp this).1
      obtain ⟨cC, iS, hKn⟩ := u_known hts hin hi
      exact ⟨cC, iS, fun r' h' => by cases h'; exact hKn⟩
  obtain ⟨dC, h2⟩ := Classical.skolem.mp h1
  obtain ⟨dI, h3⟩ := Classical.skolem.mp h2
  exact ⟨(dC, dI), fun k q hq => h3 k q hq, fun k q h => by simp at h⟩
