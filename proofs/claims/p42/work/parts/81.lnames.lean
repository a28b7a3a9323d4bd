/-! ===== the law: the constructors' calls, the calls by their numbers ===== -/
section QL
variable {p : Program} {l : Launch} {e : Env} {s : State} {m : MethodId} {below : List Frame} {meth : Method} {c : Code} {b L : Nat} {xs : Nat → Int32} {H : Heap} {locs : List Loc} {cells slots : Nat} {Q : State → Prop} {ls : Array Slot} {D : va_G}
theorem q_linit (C0 : lw_At p s m meth c b L xs) (hX2 : q_X s) {i idx k : Nat} {rest : List Value} {h h' : q_H} (hi : i < q_nM) (hM : q_Met l s.heap.size D xs 10 i [4294967328 + k] h h' []) (hlk : Cond.methodLink R_law idx (q_y i) ∈ lw_tbl) (hnp : q_np i = 0) (hkn : Nat.beq (q_kn i) 2 = true) (hk : k < h.1)
    {ws : va_W} {tys : List (ClassId × FieldType)} (hw : q_W xs h ws tys) (hP : va_P D q_cls ws H) (hK : va_K D q_cls tys s) (hD : va_D (q_A s.heap.size) ws) (hS : va_S (q_A s.heap.size) s.heap H locs) {a : Nat} (ha : (q_ad ws)[k]? = some a) {pc : Nat} (hls : ls.size = 4) (hrest : (rest.map fun v => v.category).sum ≤ 8) (hd : decode code pc = .ok (.invokespecial idx, 3)) (hc1 : cells + (h'.1 - h.1) ≤ 600000) (hc2 : slots + (q_ss h' - q_ss h) ≤ 7302250)
    (kk : ∀ (ws1 : va_W) (tys1 : List (ClassId × FieldType)) (H1 : Heap) (locs1 : List Loc), q_ad ws <+: q_ad ws1 → q_W xs h' ws1 tys1 → va_P D q_cls ws1 H1 → va_K D q_cls tys1 s → va_D (q_A s.heap.size) ws1 → va_S (q_A s.heap.size) s.heap H1 locs1 → W p l e room_1 s m #[Value.ref b] below meth c H1 locs1 (cells + (h'.1 - h.1)) (slots + (q_ss h' - q_ss h)) Q (F0 m (pc + 3) ls rest)) : W p l e room_1 s m #[Value.ref b] below meth c H locs cells slots Q (F0 m pc ls (.ref a :: rest)) := by
  obtain ⟨hx, hb, hr, hml, hown, hts, hX, hbl, hlocks, hgv⟩ := C0
  have hk128 : k < 128 := Nat.lt_of_lt_of_le hk hw.2.1
  have hav : q_S xs (q_ad ws) [4294967328 + k] [.ref a] := ⟨q_v.mkref ha hk128, trivial⟩
  have hMet := hM.2 (q_ad ws) [.ref a] hav
  obtain ⟨k1, k2, k3, k4, k5, k6, -⟩ := q_okm i hi
  have hsub : ∀ w ∈ q_w0, w.before #[Value.ref b] s = true := fun w hw => hts w (List.mem_filter.mp hw).1
  have hG : GoodIn lw_tbl (q_wy i) := fun w hw => by
    have := q_goodIn k1 w hw
    exact ⟨(List.mem_filter.mp this.1).1, this.2⟩
  have kn0 : Nat.beq (q_kn i) 0 = false := q_bneq.mpr (by rw [q_beq.mp hkn]; decide)
  have hdesc := q_np_ok i hi
  rw [hnp] at hdesc
  obtain ⟨hin1, hrt⟩ := q_ini_ok i hi hkn
  have hwy : q_wy i = Cond.code (q_y i) (q_b i) (q_ml i) none :: q_w0 := by rw [← hrt]; rfl
  refine q_after (va_runI (Ts := lw_tbl) (own := R_law) (nL := 4) (As := []) (b := a) ⟨hx, hb, hml, hown, hts⟩ hMet ⟨callB_of 0 hts hG hwy rfl rfl (hsub _ k3) (hts _ hlk) ⟨k4, k5, hdesc⟩ ⟨by show 10 + 1 ≤ 2048; decide, by show 8 + (q_ml i + 11) + 40 * 10 ≤ 84000; omega⟩, hin1, hsub _ (q_wat_ok (q_in_ok i hi kn0))⟩ ⟨q_blind, fun U hU hW => ⟨rfl, by rw [hU]; exact hS.1, q_X.warm hW hX2, ws, tys, rfl, hw, by rw [hU]; exact hP, va_K.moved hW.alike hK, hD⟩⟩ rfl rfl hls rfl (lv_room hrest) hd ⟨hc1, hc2⟩) hS (fun vv ws1 tys1 H1 locs1 h1 h2 h3 h4 h5 h6 h7 => ?_)
  rcases h1 with ⟨-, rfl⟩ | ⟨cc, xv, e1, -, -⟩
  · exact kk ws1 tys1 H1 locs1 h2 h3 h4 h5 h6 h7
  · cases e1
end QL
theorem q_lk0_1 : Cond.methodLink R_law 13 (q_y 149) ∈ lw_tbl := List.mem_of_getElem? (i := 533) (by decide +kernel)
theorem q_lk0_2 : Cond.methodLink R_law 17 (q_y 150) ∈ lw_tbl := List.mem_of_getElem? (i := 1909) (by decide +kernel)
theorem q_lk1_1 : Cond.methodLink R_law 18 (q_y 64) ∈ lw_tbl := List.mem_of_getElem? (i := 541) (by decide +kernel)
theorem q_lk1_2 : Cond.methodLink R_law 22 (q_y 82) ∈ lw_tbl := List.mem_of_getElem? (i := 1913) (by decide +kernel)
theorem q_lk2_1 : Cond.methodLink R_law 23 (q_y 151) ∈ lw_tbl := List.mem_of_getElem? (i := 545) (by decide +kernel)
theorem q_lk2_2 : Cond.methodLink R_law 27 (q_y 158) ∈ lw_tbl := List.mem_of_getElem? (i := 1446) (by decide +kernel)
theorem q_lk3_1 : Cond.methodLink R_law 28 (q_y 60) ∈ lw_tbl := List.mem_of_getElem? (i := 783) (by decide +kernel)
theorem q_lk3_2 : Cond.methodLink R_law 31 (q_y 70) ∈ lw_tbl := List.mem_of_getElem? (i := 1583) (by decide +kernel)
theorem q_lk4_1 : Cond.methodLink R_law 32 (q_y 83) ∈ lw_tbl := List.mem_of_getElem? (i := 787) (by decide +kernel)
theorem q_lk4_2 : Cond.methodLink R_law 36 (q_y 117) ∈ lw_tbl := List.mem_of_getElem? (i := 1587) (by decide +kernel)
theorem q_lk5_1 : Cond.methodLink R_law 37 (q_y 15) ∈ lw_tbl := List.mem_of_getElem? (i := 800) (by decide +kernel)
theorem q_lk5_2 : Cond.methodLink R_law 40 (q_y 17) ∈ lw_tbl := List.mem_of_getElem? (i := 1606) (by decide +kernel)
theorem q_lk6_1 : Cond.methodLink R_law 41 (q_y 84) ∈ lw_tbl := List.mem_of_getElem? (i := 829) (by decide +kernel)
theorem q_lk6_2 : Cond.methodLink R_law 44 (q_y 118) ∈ lw_tbl := List.mem_of_getElem? (i := 1633) (by decide +kernel)
theorem q_lk7_1 : Cond.methodLink R_law 45 (q_y 85) ∈ lw_tbl := List.mem_of_getElem? (i := 840) (by decide +kernel)
theorem q_lk7_2 : Cond.methodLink R_law 48 (q_y 119) ∈ lw_tbl := List.mem_of_getElem? (i := 1641) (by decide +kernel)
theorem q_lk8_1 : Cond.methodLink R_law 49 (q_y 46) ∈ lw_tbl := List.mem_of_getElem? (i := 844) (by decide +kernel)
theorem q_lk8_2 : Cond.methodLink R_law 52 (q_y 55) ∈ lw_tbl := List.mem_of_getElem? (i := 1645) (by decide +kernel)
theorem q_lk9_1 : Cond.methodLink R_law 53 (q_y 86) ∈ lw_tbl := List.mem_of_getElem? (i := 853) (by decide +kernel)
theorem q_lk9_2 : Cond.methodLink R_law 56 (q_y 120) ∈ lw_tbl := List.mem_of_getElem? (i := 1656) (by decide +kernel)
theorem q_lk10_1 : Cond.methodLink R_law 57 (q_y 163) ∈ lw_tbl := List.mem_of_getElem? (i := 871) (by decide +kernel)
theorem q_lk10_2 : Cond.methodLink R_law 60 (q_y 165) ∈ lw_tbl := List.mem_of_getElem? (i := 1672) (by decide +kernel)
theorem q_lk11_1 : Cond.methodLink R_law 61 (q_y 167) ∈ lw_tbl := List.mem_of_getElem? (i := 879) (by decide +kernel)
theorem q_lk11_2 : Cond.methodLink R_law 64 (q_y 169) ∈ lw_tbl := List.mem_of_getElem? (i := 1680) (by decide +kernel)
theorem q_lk12_1 : Cond.methodLink R_law 65 (q_y 170) ∈ lw_tbl := List.mem_of_getElem? (i := 888) (by decide +kernel)
theorem q_lk12_2 : Cond.methodLink R_law 69 (q_y 171) ∈ lw_tbl := List.mem_of_getElem? (i := 1684) (by decide +kernel)
theorem q_lk13_1 : Cond.methodLink R_law 70 (q_y 172) ∈ lw_tbl := List.mem_of_getElem? (i := 903) (by decide +kernel)
theorem q_lk13_2 : Cond.methodLink R_law 73 (q_y 173) ∈ lw_tbl := List.mem_of_getElem? (i := 1692) (by decide +kernel)
theorem q_lk14_1 : Cond.methodLink R_law 74 (q_y 87) ∈ lw_tbl := List.mem_of_getElem? (i := 911) (by decide +kernel)
theorem q_lk14_2 : Cond.methodLink R_law 77 (q_y 123) ∈ lw_tbl := List.mem_of_getElem? (i := 1700) (by decide +kernel)
theorem q_lk15_1 : Cond.methodLink R_law 78 (q_y 88) ∈ lw_tbl := List.mem_of_getElem? (i := 933) (by decide +kernel)
theorem q_lk15_2 : Cond.methodLink R_law 81 (q_y 124) ∈ lw_tbl := List.mem_of_getElem? (i := 1716) (by decide +kernel)
theorem q_lk16_1 : Cond.methodLink R_law 82 (q_y 89) ∈ lw_tbl := List.mem_of_getElem? (i := 945) (by decide +kernel)
theorem q_lk16_2 : Cond.methodLink R_law 86 (q_y 125) ∈ lw_tbl := List.mem_of_getElem? (i := 1720) (by decide +kernel)
theorem q_lk17_1 : Cond.methodLink R_law 87 (q_y 90) ∈ lw_tbl := List.mem_of_getElem? (i := 956) (by decide +kernel)
theorem q_lk17_2 : Cond.methodLink R_law 90 (q_y 126) ∈ lw_tbl := List.mem_of_getElem? (i := 1724) (by decide +kernel)
theorem q_lk18_1 : Cond.methodLink R_law 91 (q_y 174) ∈ lw_tbl := List.mem_of_getElem? (i := 962) (by decide +kernel)
theorem q_lk18_2 : Cond.methodLink R_law 94 (q_y 177) ∈ lw_tbl := List.mem_of_getElem? (i := 1728) (by decide +kernel)
theorem q_lk19_1 : Cond.methodLink R_law 95 (q_y 91) ∈ lw_tbl := List.mem_of_getElem? (i := 974) (by decide +kernel)
theorem q_lk19_2 : Cond.methodLink R_law 98 (q_y 128) ∈ lw_tbl := List.mem_of_getElem? (i := 1740) (by decide +kernel)
theorem q_lk20_1 : Cond.methodLink R_law 99 (q_y 92) ∈ lw_tbl := List.mem_of_getElem? (i := 981) (by decide +kernel)
theorem q_lk20_2 : Cond.methodLink R_law 102 (q_y 129) ∈ lw_tbl := List.mem_of_getElem? (i := 1744) (by decide +kernel)
theorem q_lk21_1 : Cond.methodLink R_law 103 (q_y 66) ∈ lw_tbl := List.mem_of_getElem? (i := 993) (by decide +kernel)
theorem q_lk21_2 : Cond.methodLink R_law 106 (q_y 67) ∈ lw_tbl := List.mem_of_getElem? (i := 1752) (by decide +kernel)
theorem q_lk22_1 : Cond.methodLink R_law 107 (q_y 93) ∈ lw_tbl := List.mem_of_getElem? (i := 1005) (by decide +kernel)
theorem q_lk22_2 : Cond.methodLink R_law 110 (q_y 130) ∈ lw_tbl := List.mem_of_getElem? (i := 1736) (by decide +kernel)
theorem q_lk23_1 : Cond.methodLink R_law 111 (q_y 94) ∈ lw_tbl := List.mem_of_getElem? (i := 1009) (by decide +kernel)
theorem q_lk23_2 : Cond.methodLink R_law 114 (q_y 131) ∈ lw_tbl := List.mem_of_getElem? (i := 1764) (by decide +kernel)
theorem q_lk24_1 : Cond.methodLink R_law 115 (q_y 95) ∈ lw_tbl := List.mem_of_getElem? (i := 1022) (by decide +kernel)
theorem q_lk24_2 : Cond.methodLink R_law 118 (q_y 132) ∈ lw_tbl := List.mem_of_getElem? (i := 1772) (by decide +kernel)
theorem q_lk25_1 : Cond.methodLink R_law 119 (q_y 96) ∈ lw_tbl := List.mem_of_getElem? (i := 1026) (by decide +kernel)
theorem q_lk25_2 : Cond.methodLink R_law 122 (q_y 133) ∈ lw_tbl := List.mem_of_getElem? (i := 1776) (by decide +kernel)
theorem q_lk26_1 : Cond.methodLink R_law 123 (q_y 61) ∈ lw_tbl := List.mem_of_getElem? (i := 1035) (by decide +kernel)
theorem q_lk26_2 : Cond.methodLink R_law 126 (q_y 71) ∈ lw_tbl := List.mem_of_getElem? (i := 1784) (by decide +kernel)
theorem q_lk27_1 : Cond.methodLink R_law 127 (q_y 33) ∈ lw_tbl := List.mem_of_getElem? (i := 1039) (by decide +kernel)
theorem q_lk27_2 : Cond.methodLink R_law 130 (q_y 51) ∈ lw_tbl := List.mem_of_getElem? (i := 1788) (by decide +kernel)
theorem q_lk28_1 : Cond.methodLink R_law 131 (q_y 75) ∈ lw_tbl := List.mem_of_getElem? (i := 1050) (by decide +kernel)
theorem q_lk28_2 : Cond.methodLink R_law 134 (q_y 76) ∈ lw_tbl := List.mem_of_getElem? (i := 1808) (by decide +kernel)
theorem q_lk29_1 : Cond.methodLink R_law 135 (q_y 181) ∈ lw_tbl := List.mem_of_getElem? (i := 1059) (by decide +kernel)
theorem q_lk29_2 : Cond.methodLink R_law 138 (q_y 183) ∈ lw_tbl := List.mem_of_getElem? (i := 1812) (by decide +kernel)
theorem q_lk30_1 : Cond.methodLink R_law 139 (q_y 52) ∈ lw_tbl := List.mem_of_getElem? (i := 1071) (by decide +kernel)
theorem q_lk30_2 : Cond.methodLink R_law 142 (q_y 97) ∈ lw_tbl := List.mem_of_getElem? (i := 1820) (by decide +kernel)
theorem q_lk31_1 : Cond.methodLink R_law 143 (q_y 73) ∈ lw_tbl := List.mem_of_getElem? (i := 1078) (by decide +kernel)
theorem q_lk31_2 : Cond.methodLink R_law 147 (q_y 74) ∈ lw_tbl := List.mem_of_getElem? (i := 1828) (by decide +kernel)
theorem q_lk32_1 : Cond.methodLink R_law 148 (q_y 98) ∈ lw_tbl := List.mem_of_getElem? (i := 1089) (by decide +kernel)
theorem q_lk32_2 : Cond.methodLink R_law 151 (q_y 135) ∈ lw_tbl := List.mem_of_getElem? (i := 1832) (by decide +kernel)
theorem q_lk33_1 : Cond.methodLink R_law 152 (q_y 30) ∈ lw_tbl := List.mem_of_getElem? (i := 1105) (by decide +kernel)
theorem q_lk33_2 : Cond.methodLink R_law 155 (q_y 48) ∈ lw_tbl := List.mem_of_getElem? (i := 1800) (by decide +kernel)
theorem q_lk34_1 : Cond.methodLink R_law 156 (q_y 105) ∈ lw_tbl := List.mem_of_getElem? (i := 1109) (by decide +kernel)
theorem q_lk34_2 : Cond.methodLink R_law 159 (q_y 106) ∈ lw_tbl := List.mem_of_getElem? (i := 1804) (by decide +kernel)
theorem q_lk35_1 : Cond.methodLink R_law 160 (q_y 184) ∈ lw_tbl := List.mem_of_getElem? (i := 1117) (by decide +kernel)
theorem q_lk35_2 : Cond.methodLink R_law 163 (q_y 185) ∈ lw_tbl := List.mem_of_getElem? (i := 1649) (by decide +kernel)
theorem q_lk36_1 : Cond.methodLink R_law 164 (q_y 99) ∈ lw_tbl := List.mem_of_getElem? (i := 1121) (by decide +kernel)
theorem q_lk36_2 : Cond.methodLink R_law 167 (q_y 136) ∈ lw_tbl := List.mem_of_getElem? (i := 1696) (by decide +kernel)
theorem q_lk37_1 : Cond.methodLink R_law 168 (q_y 27) ∈ lw_tbl := List.mem_of_getElem? (i := 1125) (by decide +kernel)
theorem q_lk37_2 : Cond.methodLink R_law 172 (q_y 31) ∈ lw_tbl := List.mem_of_getElem? (i := 1848) (by decide +kernel)
theorem q_lk38_1 : Cond.methodLink R_law 173 (q_y 28) ∈ lw_tbl := List.mem_of_getElem? (i := 1133) (by decide +kernel)
theorem q_lk38_2 : Cond.methodLink R_law 176 (q_y 32) ∈ lw_tbl := List.mem_of_getElem? (i := 1856) (by decide +kernel)
theorem q_lk39_1 : Cond.methodLink R_law 177 (q_y 100) ∈ lw_tbl := List.mem_of_getElem? (i := 1141) (by decide +kernel)
theorem q_lk39_2 : Cond.methodLink R_law 181 (q_y 137) ∈ lw_tbl := List.mem_of_getElem? (i := 1860) (by decide +kernel)
theorem q_lk40_1 : Cond.methodLink R_law 182 (q_y 103) ∈ lw_tbl := List.mem_of_getElem? (i := 1149) (by decide +kernel)
theorem q_lk40_2 : Cond.methodLink R_law 185 (q_y 104) ∈ lw_tbl := List.mem_of_getElem? (i := 1864) (by decide +kernel)
theorem q_lk41_1 : Cond.methodLink R_law 186 (q_y 186) ∈ lw_tbl := List.mem_of_getElem? (i := 1154) (by decide +kernel)
theorem q_lk41_2 : Cond.methodLink R_law 189 (q_y 187) ∈ lw_tbl := List.mem_of_getElem? (i := 1869) (by decide +kernel)
theorem q_lk42_1 : Cond.methodLink R_law 190 (q_y 188) ∈ lw_tbl := List.mem_of_getElem? (i := 1179) (by decide +kernel)
theorem q_lk42_2 : Cond.methodLink R_law 193 (q_y 190) ∈ lw_tbl := List.mem_of_getElem? (i := 1889) (by decide +kernel)
theorem q_lk43_1 : Cond.methodLink R_law 194 (q_y 140) ∈ lw_tbl := List.mem_of_getElem? (i := 1192) (by decide +kernel)
theorem q_lk43_2 : Cond.methodLink R_law 197 (q_y 141) ∈ lw_tbl := List.mem_of_getElem? (i := 1893) (by decide +kernel)
theorem q_lk44_1 : Cond.methodLink R_law 198 (q_y 57) ∈ lw_tbl := List.mem_of_getElem? (i := 1201) (by decide +kernel)
theorem q_lk44_2 : Cond.methodLink R_law 201 (q_y 68) ∈ lw_tbl := List.mem_of_getElem? (i := 1897) (by decide +kernel)
theorem q_lk45_1 : Cond.methodLink R_law 202 (q_y 58) ∈ lw_tbl := List.mem_of_getElem? (i := 1206) (by decide +kernel)
theorem q_lk45_2 : Cond.methodLink R_law 205 (q_y 69) ∈ lw_tbl := List.mem_of_getElem? (i := 1901) (by decide +kernel)
theorem q_lk46_1 : Cond.methodLink R_law 206 (q_y 40) ∈ lw_tbl := List.mem_of_getElem? (i := 1210) (by decide +kernel)
theorem q_lk46_2 : Cond.methodLink R_law 209 (q_y 43) ∈ lw_tbl := List.mem_of_getElem? (i := 1905) (by decide +kernel)
theorem q_lkx : Cond.methodLink R_law 9 (q_y 142) ∈ lw_tbl := List.mem_of_getElem? (i := 128) (by decide +kernel)
theorem q_lky : Cond.methodLink R_law 12 (q_y 148) ∈ lw_tbl := List.mem_of_getElem? (i := 1216) (by decide +kernel)
theorem q_lcx : Cond.classLink R_law 7 "SandNights" ∈ lw_tbl := List.mem_of_getElem? (i := 126) (by decide +kernel)
theorem q_lcy : Cond.classLink R_law 10 "SandNightsModel" ∈ lw_tbl := List.mem_of_getElem? (i := 1214) (by decide +kernel)
theorem q_nst_w : ∀ t ∈ q_nest.zip [136, 192, 198, 280, 330, 380, 403, 427, 465, 468, 725, 726, 799, 861, 870, 925, 989, 1058, 1097, 1173, 1174, 1191], lw_tbl[t.2]? = some (Cond.methodLinkNest t.1.1 t.1.2.1 t.1.2.2.1 t.1.2.2.2) := by decide +kernel
theorem q_aov_w : Cond.arrayOver (.object "SandNights$Sand") ∈ lw_tbl := List.mem_of_getElem? (i := 385) (by decide +kernel)
theorem q_X_of {s : State} {b : Nat} (hts : ∀ w ∈ lw_tbl, w.before #[Value.ref b] s = true) : q_X s := by
  refine ⟨fun w hw => ?_, va_AO.of (hts _ q_aov_w)⟩
  obtain ⟨k, hk⟩ := List.getElem?_of_mem hw
  have hlt : k < q_nest.length := (List.getElem?_eq_some_iff.mp hk).1
  obtain ⟨t, ht, ht1⟩ : ∃ t ∈ q_nest.zip [136, 192, 198, 280, 330, 380, 403, 427, 465, 468, 725, 726, 799, 861, 870, 925, 989, 1058, 1097, 1173, 1174, 1191], t.1 = w := by
    have hl : k < ([136, 192, 198, 280, 330, 380, 403, 427, 465, 468, 725, 726, 799, 861, 870, 925, 989, 1058, 1097, 1173, 1174, 1191] : List Nat).length := hlt
    refine ⟨(w, ([136, 192, 198, 280, 330, 380, 403, 427, 465, 468, 725, 726, 799, 861, 870, 925, 989, 1058, 1097, 1173, 1174, 1191] : List Nat)[k]), ?_, rfl⟩
    apply List.mem_of_getElem? (i := k)
    rw [List.getElem?_zip_eq_some]
    exact ⟨hk, List.getElem?_eq_getElem hl⟩
  have := q_nst_w t ht
  rw [ht1] at this
  exact va_Nw.of rfl (hts _ (List.mem_of_getElem? this))
theorem q_dis {s : State} {b : Nat} (hts : ∀ w ∈ lw_tbl, w.before #[Value.ref b] s = true) : ∃ D : va_G, va_K D q_cls [] s := by
  have h1 : ∀ k : Nat, ∃ (cC : ClassId) (iS : Nat → Nat), ∀ r : vw_C, q_cls[k]? = some r → u_Kn s r.1 r.2.1 r.2.2 cC iS := by
    intro k
    cases hr : q_cls[k]? with
    | none => exact ⟨(0 : Nat), fun _ => 0, fun r h => by cases h⟩
    | some r =>
      have hk : k < 10 := (List.getElem?_eq_some_iff.mp hr).1
      have e := Option.some.inj (hr.symm.trans (q_cls_at k hk))
      have hin : ∀ w ∈ u_ws r.1 r.2.1 r.2.2, w ∈ lw_tbl := fun w hw => (List.mem_filter.mp ((q_clok_ok k r hr).1 w hw)).1
      have hi : (Cond.instantiable r.1 r.2.2).before #[Value.ref b] s = true := by
        have := q_wat_ok (q_cw k hk).1
        rw [← e] at this
        exact hts _ (List.mem_filter.mp this).1
      obtain ⟨cC, iS, hKn⟩ := u_known hts hin hi
      exact ⟨cC, iS, fun r' h' => by cases h'; exact hKn⟩
  obtain ⟨dC, h2⟩ := Classical.skolem.mp h1
  obtain ⟨dI, h3⟩ := Classical.skolem.mp h2
  exact ⟨(dC, dI), fun k q hq => h3 k q hq, fun k q h => by simp at h⟩
