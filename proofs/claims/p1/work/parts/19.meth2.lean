/-! ===== method by method, the rest ===== -/
theorem q_pc96 : Cond.code (q_y 96) (q_b 96) (q_ml 96) (q_rt 96) ∈ q_w0 := List.mem_filter.mpr ⟨List.mem_of_getElem? (i := 1029) (by decide +kernel), by decide +kernel⟩
theorem q_dc96 : ∀ e ∈ q_cd96, decode (q_b 96) e.1 = .ok (e.2.2.1, e.2.1) := by decide +kernel
theorem q_ck96 : q_cd96.all (fun e => q_chk 96 e.1 e.2.1 e.2.2.1 e.2.2.2.1 e.2.2.2.2.1 e.2.2.2.2.2) = true := by decide +kernel
theorem q_mok96 : q_mok 96 := q_mk (by decide) q_pc96 (by decide +kernel) (by decide +kernel) rfl (by decide +kernel) q_dc96 q_ck96
theorem q_pc97 : Cond.code (q_y 97) (q_b 97) (q_ml 97) (q_rt 97) ∈ q_w0 := List.mem_filter.mpr ⟨List.mem_of_getElem? (i := 1823) (by decide +kernel), by decide +kernel⟩
theorem q_dc97 : ∀ e ∈ q_cd97, decode (q_b 97) e.1 = .ok (e.2.2.1, e.2.1) := by decide +kernel
theorem q_ck97 : q_cd97.all (fun e => q_chk 97 e.1 e.2.1 e.2.2.1 e.2.2.2.1 e.2.2.2.2.1 e.2.2.2.2.2) = true := by decide +kernel
theorem q_mok97 : q_mok 97 := q_mk (by decide) q_pc97 (by decide +kernel) (by decide +kernel) rfl (by decide +kernel) q_dc97 q_ck97
theorem q_pc98 : Cond.code (q_y 98) (q_b 98) (q_ml 98) (q_rt 98) ∈ q_w0 := List.mem_filter.mpr ⟨List.mem_of_getElem? (i := 1092) (by decide +kernel), by decide +kernel⟩
theorem q_dc98 : ∀ e ∈ q_cd98, decode (q_b 98) e.1 = .ok (e.2.2.1, e.2.1) := by decide +kernel
theorem q_ck98 : q_cd98.all (fun e => q_chk 98 e.1 e.2.1 e.2.2.1 e.2.2.2.1 e.2.2.2.2.1 e.2.2.2.2.2) = true := by decide +kernel
theorem q_mok98 : q_mok 98 := q_mk (by decide) q_pc98 (by decide +kernel) (by decide +kernel) rfl (by decide +kernel) q_dc98 q_ck98
theorem q_pc99 : Cond.code (q_y 99) (q_b 99) (q_ml 99) (q_rt 99) ∈ q_w0 := List.mem_filter.mpr ⟨List.mem_of_getElem? (i := 1124) (by decide +kernel), by decide +kernel⟩
theorem q_dc99 : ∀ e ∈ q_cd99, decode (q_b 99) e.1 = .ok (e.2.2.1, e.2.1) := by decide +kernel
theorem q_ck99 : q_cd99.all (fun e => q_chk 99 e.1 e.2.1 e.2.2.1 e.2.2.2.1 e.2.2.2.2.1 e.2.2.2.2.2) = true := by decide +kernel
theorem q_mok99 : q_mok 99 := q_mk (by decide) q_pc99 (by decide +kernel) (by decide +kernel) rfl (by decide +kernel) q_dc99 q_ck99
theorem q_pc100 : Cond.code (q_y 100) (q_b 100) (q_ml 100) (q_rt 100) ∈ q_w0 := List.mem_filter.mpr ⟨List.mem_of_getElem? (i := 1144) (by decide +kernel), by decide +kernel⟩
theorem q_dc100 : ∀ e ∈ q_cd100, decode (q_b 100) e.1 = .ok (e.2.2.1, e.2.1) := by decide +kernel
theorem q_ck100 : q_cd100.all (fun e => q_chk 100 e.1 e.2.1 e.2.2.1 e.2.2.2.1 e.2.2.2.2.1 e.2.2.2.2.2) = true := by decide +kernel
theorem q_mok100 : q_mok 100 := q_mk (by decide) q_pc100 (by decide +kernel) (by decide +kernel) rfl (by decide +kernel) q_dc100 q_ck100
theorem q_pc101 : Cond.code (q_y 101) (q_b 101) (q_ml 101) (q_rt 101) ∈ q_w0 := List.mem_filter.mpr ⟨List.mem_of_getElem? (i := 1148) (by decide +kernel), by decide +kernel⟩
theorem q_dc101 : ∀ e ∈ q_cd101, decode (q_b 101) e.1 = .ok (e.2.2.1, e.2.1) := by decide +kernel
theorem q_ck101 : q_cd101.all (fun e => q_chk 101 e.1 e.2.1 e.2.2.1 e.2.2.2.1 e.2.2.2.2.1 e.2.2.2.2.2) = true := by decide +kernel
theorem q_mok101 : q_mok 101 := q_mk (by decide) q_pc101 (by decide +kernel) (by decide +kernel) rfl (by decide +kernel) q_dc101 q_ck101
theorem q_pc102 : Cond.code (q_y 102) (q_b 102) (q_ml 102) (q_rt 102) ∈ q_w0 := List.mem_filter.mpr ⟨List.mem_of_getElem? (i := 1057) (by decide +kernel), by decide +kernel⟩
theorem q_dc102 : ∀ e ∈ q_cd102, decode (q_b 102) e.1 = .ok (e.2.2.1, e.2.1) := by decide +kernel
theorem q_ck102 : q_cd102.all (fun e => q_chk 102 e.1 e.2.1 e.2.2.1 e.2.2.2.1 e.2.2.2.2.1 e.2.2.2.2.2) = true := by decide +kernel
theorem q_mok102 : q_mok 102 := q_mk (by decide) q_pc102 (by decide +kernel) (by decide +kernel) rfl (by decide +kernel) q_dc102 q_ck102
theorem q_pc103 : Cond.code (q_y 103) (q_b 103) (q_ml 103) (q_rt 103) ∈ q_w0 := List.mem_filter.mpr ⟨List.mem_of_getElem? (i := 1152) (by decide +kernel), by decide +kernel⟩
theorem q_dc103 : ∀ e ∈ q_cd103, decode (q_b 103) e.1 = .ok (e.2.2.1, e.2.1) := by decide +kernel
theorem q_ck103 : q_cd103.all (fun e => q_chk 103 e.1 e.2.1 e.2.2.1 e.2.2.2.1 e.2.2.2.2.1 e.2.2.2.2.2) = true := by decide +kernel
theorem q_mok103 : q_mok 103 := q_mk (by decide) q_pc103 (by decide +kernel) (by decide +kernel) rfl (by decide +kernel) q_dc103 q_ck103
theorem q_pc104 : Cond.code (q_y 104) (q_b 104) (q_ml 104) (q_rt 104) ∈ q_w0 := List.mem_filter.mpr ⟨List.mem_of_getElem? (i := 1867) (by decide +kernel), by decide +kernel⟩
theorem q_dc104 : ∀ e ∈ q_cd104, decode (q_b 104) e.1 = .ok (e.2.2.1, e.2.1) := by decide +kernel
theorem q_ck104 : q_cd104.all (fun e => q_chk 104 e.1 e.2.1 e.2.2.1 e.2.2.2.1 e.2.2.2.2.1 e.2.2.2.2.2) = true := by decide +kernel
theorem q_mok104 : q_mok 104 := q_mk (by decide) q_pc104 (by decide +kernel) (by decide +kernel) rfl (by decide +kernel) q_dc104 q_ck104
theorem q_pc105 : Cond.code (q_y 105) (q_b 105) (q_ml 105) (q_rt 105) ∈ q_w0 := List.mem_filter.mpr ⟨List.mem_of_getElem? (i := 1112) (by decide +kernel), by decide +kernel⟩
theorem q_dc105 : ∀ e ∈ q_cd105, decode (q_b 105) e.1 = .ok (e.2.2.1, e.2.1) := by decide +kernel
theorem q_ck105 : q_cd105.all (fun e => q_chk 105 e.1 e.2.1 e.2.2.1 e.2.2.2.1 e.2.2.2.2.1 e.2.2.2.2.2) = true := by decide +kernel
theorem q_mok105 : q_mok 105 := q_mk (by decide) q_pc105 (by decide +kernel) (by decide +kernel) rfl (by decide +kernel) q_dc105 q_ck105
theorem q_pc106 : Cond.code (q_y 106) (q_b 106) (q_ml 106) (q_rt 106) ∈ q_w0 := List.mem_filter.mpr ⟨List.mem_of_getElem? (i := 1807) (by decide +kernel), by decide +kernel⟩
theorem q_dc106 : ∀ e ∈ q_cd106, decode (q_b 106) e.1 = .ok (e.2.2.1, e.2.1) := by decide +kernel
theorem q_ck106 : q_cd106.all (fun e => q_chk 106 e.1 e.2.1 e.2.2.1 e.2.2.2.1 e.2.2.2.2.1 e.2.2.2.2.2) = true := by decide +kernel
theorem q_mok106 : q_mok 106 := q_mk (by decide) q_pc106 (by decide +kernel) (by decide +kernel) rfl (by decide +kernel) q_dc106 q_ck106
theorem q_pc107 : Cond.code (q_y 107) (q_b 107) (q_ml 107) (q_rt 107) ∈ q_w0 := List.mem_filter.mpr ⟨List.mem_of_getElem? (i := 1178) (by decide +kernel), by decide +kernel⟩
theorem q_dc107 : ∀ e ∈ q_cd107, decode (q_b 107) e.1 = .ok (e.2.2.1, e.2.1) := by decide +kernel
theorem q_ck107 : q_cd107.all (fun e => q_chk 107 e.1 e.2.1 e.2.2.1 e.2.2.2.1 e.2.2.2.2.1 e.2.2.2.2.2) = true := by decide +kernel
theorem q_mok107 : q_mok 107 := q_mk (by decide) q_pc107 (by decide +kernel) (by decide +kernel) rfl (by decide +kernel) q_dc107 q_ck107
theorem q_pc108 : Cond.code (q_y 108) (q_b 108) (q_ml 108) (q_rt 108) ∈ q_w0 := List.mem_filter.mpr ⟨List.mem_of_getElem? (i := 194) (by decide +kernel), by decide +kernel⟩
theorem q_dc108 : ∀ e ∈ q_cd108, decode (q_b 108) e.1 = .ok (e.2.2.1, e.2.1) := by decide +kernel
theorem q_ck108 : q_cd108.all (fun e => q_chk 108 e.1 e.2.1 e.2.2.1 e.2.2.2.1 e.2.2.2.2.1 e.2.2.2.2.2) = true := by decide +kernel
theorem q_mok108 : q_mok 108 := q_mk (by decide) q_pc108 (by decide +kernel) (by decide +kernel) rfl (by decide +kernel) q_dc108 q_ck108
theorem q_pc109 : Cond.code (q_y 109) (q_b 109) (q_ml 109) (q_rt 109) ∈ q_w0 := List.mem_filter.mpr ⟨List.mem_of_getElem? (i := 200) (by decide +kernel), by decide +kernel⟩
theorem q_dc109 : ∀ e ∈ q_cd109, decode (q_b 109) e.1 = .ok (e.2.2.1, e.2.1) := by decide +kernel
theorem q_ck109 : q_cd109.all (fun e => q_chk 109 e.1 e.2.1 e.2.2.1 e.2.2.2.1 e.2.2.2.2.1 e.2.2.2.2.2) = true := by decide +kernel
theorem q_mok109 : q_mok 109 := q_mk (by decide) q_pc109 (by decide +kernel) (by decide +kernel) rfl (by decide +kernel) q_dc109 q_ck109
theorem q_pc110 : Cond.code (q_y 110) (q_b 110) (q_ml 110) (q_rt 110) ∈ q_w0 := List.mem_filter.mpr ⟨List.mem_of_getElem? (i := 457) (by decide +kernel), by decide +kernel⟩
theorem q_dc110 : ∀ e ∈ q_cd110, decode (q_b 110) e.1 = .ok (e.2.2.1, e.2.1) := by decide +kernel
theorem q_ck110 : q_cd110.all (fun e => q_chk 110 e.1 e.2.1 e.2.2.1 e.2.2.2.1 e.2.2.2.2.1 e.2.2.2.2.2) = true := by decide +kernel
theorem q_mok110 : q_mok 110 := q_mk (by decide) q_pc110 (by decide +kernel) (by decide +kernel) rfl (by decide +kernel) q_dc110 q_ck110
theorem q_pc111 : Cond.code (q_y 111) (q_b 111) (q_ml 111) (q_rt 111) ∈ q_w0 := List.mem_filter.mpr ⟨List.mem_of_getElem? (i := 461) (by decide +kernel), by decide +kernel⟩
theorem q_dc111 : ∀ e ∈ q_cd111, decode (q_b 111) e.1 = .ok (e.2.2.1, e.2.1) := by decide +kernel
theorem q_ck111 : q_cd111.all (fun e => q_chk 111 e.1 e.2.1 e.2.2.1 e.2.2.2.1 e.2.2.2.2.1 e.2.2.2.2.2) = true := by decide +kernel
theorem q_mok111 : q_mok 111 := q_mk (by decide) q_pc111 (by decide +kernel) (by decide +kernel) rfl (by decide +kernel) q_dc111 q_ck111
theorem q_pc112 : Cond.code (q_y 112) (q_b 112) (q_ml 112) (q_rt 112) ∈ q_w0 := List.mem_filter.mpr ⟨List.mem_of_getElem? (i := 478) (by decide +kernel), by decide +kernel⟩
theorem q_dc112 : ∀ e ∈ q_cd112, decode (q_b 112) e.1 = .ok (e.2.2.1, e.2.1) := by decide +kernel
theorem q_ck112 : q_cd112.all (fun e => q_chk 112 e.1 e.2.1 e.2.2.1 e.2.2.2.1 e.2.2.2.2.1 e.2.2.2.2.2) = true := by decide +kernel
theorem q_mok112 : q_mok 112 := q_mk (by decide) q_pc112 (by decide +kernel) (by decide +kernel) rfl (by decide +kernel) q_dc112 q_ck112
theorem q_pc113 : Cond.code (q_y 113) (q_b 113) (q_ml 113) (q_rt 113) ∈ q_w0 := List.mem_filter.mpr ⟨List.mem_of_getElem? (i := 492) (by decide +kernel), by decide +kernel⟩
theorem q_dc113 : ∀ e ∈ q_cd113, decode (q_b 113) e.1 = .ok (e.2.2.1, e.2.1) := by decide +kernel
theorem q_ck113 : q_cd113.all (fun e => q_chk 113 e.1 e.2.1 e.2.2.1 e.2.2.2.1 e.2.2.2.2.1 e.2.2.2.2.2) = true := by decide +kernel
theorem q_mok113 : q_mok 113 := q_mk (by decide) q_pc113 (by decide +kernel) (by decide +kernel) rfl (by decide +kernel) q_dc113 q_ck113
theorem q_pc114 : Cond.code (q_y 114) (q_b 114) (q_ml 114) (q_rt 114) ∈ q_w0 := List.mem_filter.mpr ⟨List.mem_of_getElem? (i := 1223) (by decide +kernel), by decide +kernel⟩
theorem q_dc114 : ∀ e ∈ q_cd114, decode (q_b 114) e.1 = .ok (e.2.2.1, e.2.1) := by decide +kernel
theorem q_ck114 : q_cd114.all (fun e => q_chk 114 e.1 e.2.1 e.2.2.1 e.2.2.2.1 e.2.2.2.2.1 e.2.2.2.2.2) = true := by decide +kernel
theorem q_mok114 : q_mok 114 := q_mk (by decide) q_pc114 (by decide +kernel) (by decide +kernel) rfl (by decide +kernel) q_dc114 q_ck114
theorem q_pc115 : Cond.code (q_y 115) (q_b 115) (q_ml 115) (q_rt 115) ∈ q_w0 := List.mem_filter.mpr ⟨List.mem_of_getElem? (i := 1227) (by decide +kernel), by decide +kernel⟩
theorem q_dc115 : ∀ e ∈ q_cd115, decode (q_b 115) e.1 = .ok (e.2.2.1, e.2.1) := by decide +kernel
theorem q_ck115 : q_cd115.all (fun e => q_chk 115 e.1 e.2.1 e.2.2.1 e.2.2.2.1 e.2.2.2.2.1 e.2.2.2.2.2) = true := by decide +kernel
theorem q_mok115 : q_mok 115 := q_mk (by decide) q_pc115 (by decide +kernel) (by decide +kernel) rfl (by decide +kernel) q_dc115 q_ck115
theorem q_pc116 : Cond.code (q_y 116) (q_b 116) (q_ml 116) (q_rt 116) ∈ q_w0 := List.mem_filter.mpr ⟨List.mem_of_getElem? (i := 1491) (by decide +kernel), by decide +kernel⟩
theorem q_dc116 : ∀ e ∈ q_cd116, decode (q_b 116) e.1 = .ok (e.2.2.1, e.2.1) := by decide +kernel
theorem q_ck116 : q_cd116.all (fun e => q_chk 116 e.1 e.2.1 e.2.2.1 e.2.2.2.1 e.2.2.2.2.1 e.2.2.2.2.2) = true := by decide +kernel
theorem q_mok116 : q_mok 116 := q_mk (by decide) q_pc116 (by decide +kernel) (by decide +kernel) rfl (by decide +kernel) q_dc116 q_ck116
theorem q_pc117 : Cond.code (q_y 117) (q_b 117) (q_ml 117) (q_rt 117) ∈ q_w0 := List.mem_filter.mpr ⟨List.mem_of_getElem? (i := 1590) (by decide +kernel), by decide +kernel⟩
theorem q_dc117 : ∀ e ∈ q_cd117, decode (q_b 117) e.1 = .ok (e.2.2.1, e.2.1) := by decide +kernel
theorem q_ck117 : q_cd117.all (fun e => q_chk 117 e.1 e.2.1 e.2.2.1 e.2.2.2.1 e.2.2.2.2.1 e.2.2.2.2.2) = true := by decide +kernel
theorem q_mok117 : q_mok 117 := q_mk (by decide) q_pc117 (by decide +kernel) (by decide +kernel) rfl (by decide +kernel) q_dc117 q_ck117
theorem q_pc118 : Cond.code (q_y 118) (q_b 118) (q_ml 118) (q_rt 118) ∈ q_w0 := List.mem_filter.mpr ⟨List.mem_of_getElem? (i := 1636) (by decide +kernel), by decide +kernel⟩
theorem q_dc118 : ∀ e ∈ q_cd118, decode (q_b 118) e.1 = .ok (e.2.2.1, e.2.1) := by decide +kernel
theorem q_ck118 : q_cd118.all (fun e => q_chk 118 e.1 e.2.1 e.2.2.1 e.2.2.2.1 e.2.2.2.2.1 e.2.2.2.2.2) = true := by decide +kernel
theorem q_mok118 : q_mok 118 := q_mk (by decide) q_pc118 (by decide +kernel) (by decide +kernel) rfl (by decide +kernel) q_dc118 q_ck118
theorem q_pc119 : Cond.code (q_y 119) (q_b 119) (q_ml 119) (q_rt 119) ∈ q_w0 := List.mem_filter.mpr ⟨List.mem_of_getElem? (i := 1644) (by decide +kernel), by decide +kernel⟩
theorem q_dc119 : ∀ e ∈ q_cd119, decode (q_b 119) e.1 = .ok (e.2.2.1, e.2.1) := by decide +kernel
theorem q_ck119 : q_cd119.all (fun e => q_chk 119 e.1 e.2.1 e.2.2.1 e.2.2.2.1 e.2.2.2.2.1 e.2.2.2.2.2) = true := by decide +kernel
theorem q_mok119 : q_mok 119 := q_mk (by decide) q_pc119 (by decide +kernel) (by decide +kernel) rfl (by decide +kernel) q_dc119 q_ck119
theorem q_pc120 : Cond.code (q_y 120) (q_b 120) (q_ml 120) (q_rt 120) ∈ q_w0 := List.mem_filter.mpr ⟨List.mem_of_getElem? (i := 1659) (by decide +kernel), by decide +kernel⟩
theorem q_dc120 : ∀ e ∈ q_cd120, decode (q_b 120) e.1 = .ok (e.2.2.1, e.2.1) := by decide +kernel
theorem q_ck120 : q_cd120.all (fun e => q_chk 120 e.1 e.2.1 e.2.2.1 e.2.2.2.1 e.2.2.2.2.1 e.2.2.2.2.2) = true := by decide +kernel
theorem q_mok120 : q_mok 120 := q_mk (by decide) q_pc120 (by decide +kernel) (by decide +kernel) rfl (by decide +kernel) q_dc120 q_ck120
theorem q_pc121 : Cond.code (q_y 121) (q_b 121) (q_ml 121) (q_rt 121) ∈ q_w0 := List.mem_filter.mpr ⟨List.mem_of_getElem? (i := 860) (by decide +kernel), by decide +kernel⟩
theorem q_dc121 : ∀ e ∈ q_cd121, decode (q_b 121) e.1 = .ok (e.2.2.1, e.2.1) := by decide +kernel
theorem q_ck121 : q_cd121.all (fun e => q_chk 121 e.1 e.2.1 e.2.2.1 e.2.2.2.1 e.2.2.2.2.1 e.2.2.2.2.2) = true := by decide +kernel
theorem q_mok121 : q_mok 121 := q_mk (by decide) q_pc121 (by decide +kernel) (by decide +kernel) rfl (by decide +kernel) q_dc121 q_ck121
theorem q_pc122 : Cond.code (q_y 122) (q_b 122) (q_ml 122) (q_rt 122) ∈ q_w0 := List.mem_filter.mpr ⟨List.mem_of_getElem? (i := 1671) (by decide +kernel), by decide +kernel⟩
theorem q_dc122 : ∀ e ∈ q_cd122, decode (q_b 122) e.1 = .ok (e.2.2.1, e.2.1) := by decide +kernel
theorem q_ck122 : q_cd122.all (fun e => q_chk 122 e.1 e.2.1 e.2.2.1 e.2.2.2.1 e.2.2.2.2.1 e.2.2.2.2.2) = true := by decide +kernel
theorem q_mok122 : q_mok 122 := q_mk (by decide) q_pc122 (by decide +kernel) (by decide +kernel) rfl (by decide +kernel) q_dc122 q_ck122
theorem q_pc123 : Cond.code (q_y 123) (q_b 123) (q_ml 123) (q_rt 123) ∈ q_w0 := List.mem_filter.mpr ⟨List.mem_of_getElem? (i := 1703) (by decide +kernel), by decide +kernel⟩
theorem q_dc123 : ∀ e ∈ q_cd123, decode (q_b 123) e.1 = .ok (e.2.2.1, e.2.1) := by decide +kernel
theorem q_ck123 : q_cd123.all (fun e => q_chk 123 e.1 e.2.1 e.2.2.1 e.2.2.2.1 e.2.2.2.2.1 e.2.2.2.2.2) = true := by decide +kernel
theorem q_mok123 : q_mok 123 := q_mk (by decide) q_pc123 (by decide +kernel) (by decide +kernel) rfl (by decide +kernel) q_dc123 q_ck123
theorem q_pc124 : Cond.code (q_y 124) (q_b 124) (q_ml 124) (q_rt 124) ∈ q_w0 := List.mem_filter.mpr ⟨List.mem_of_getElem? (i := 1719) (by decide +kernel), by decide +kernel⟩
theorem q_dc124 : ∀ e ∈ q_cd124, decode (q_b 124) e.1 = .ok (e.2.2.1, e.2.1) := by decide +kernel
theorem q_ck124 : q_cd124.all (fun e => q_chk 124 e.1 e.2.1 e.2.2.1 e.2.2.2.1 e.2.2.2.2.1 e.2.2.2.2.2) = true := by decide +kernel
theorem q_mok124 : q_mok 124 := q_mk (by decide) q_pc124 (by decide +kernel) (by decide +kernel) rfl (by decide +kernel) q_dc124 q_ck124
theorem q_pc125 : Cond.code (q_y 125) (q_b 125) (q_ml 125) (q_rt 125) ∈ q_w0 := List.mem_filter.mpr ⟨List.mem_of_getElem? (i := 1723) (by decide +kernel), by decide +kernel⟩
theorem q_dc125 : ∀ e ∈ q_cd125, decode (q_b 125) e.1 = .ok (e.2.2.1, e.2.1) := by decide +kernel
theorem q_ck125 : q_cd125.all (fun e => q_chk 125 e.1 e.2.1 e.2.2.1 e.2.2.2.1 e.2.2.2.2.1 e.2.2.2.2.2) = true := by decide +kernel
theorem q_mok125 : q_mok 125 := q_mk (by decide) q_pc125 (by decide +kernel) (by decide +kernel) rfl (by decide +kernel) q_dc125 q_ck125
theorem q_pc126 : Cond.code (q_y 126) (q_b 126) (q_ml 126) (q_rt 126) ∈ q_w0 := List.mem_filter.mpr ⟨List.mem_of_getElem? (i := 1727) (by decide +kernel), by decide +kernel⟩
theorem q_dc126 : ∀ e ∈ q_cd126, decode (q_b 126) e.1 = .ok (e.2.2.1, e.2.1) := by decide +kernel
theorem q_ck126 : q_cd126.all (fun e => q_chk 126 e.1 e.2.1 e.2.2.1 e.2.2.2.1 e.2.2.2.2.1 e.2.2.2.2.2) = true := by decide +kernel
theorem q_mok126 : q_mok 126 := q_mk (by decide) q_pc126 (by decide +kernel) (by decide +kernel) rfl (by decide +kernel) q_dc126 q_ck126
theorem q_pc127 : Cond.code (q_y 127) (q_b 127) (q_ml 127) (q_rt 127) ∈ q_w0 := List.mem_filter.mpr ⟨List.mem_of_getElem? (i := 1707) (by decide +kernel), by decide +kernel⟩
theorem q_dc127 : ∀ e ∈ q_cd127, decode (q_b 127) e.1 = .ok (e.2.2.1, e.2.1) := by decide +kernel
theorem q_ck127 : q_cd127.all (fun e => q_chk 127 e.1 e.2.1 e.2.2.1 e.2.2.2.1 e.2.2.2.2.1 e.2.2.2.2.2) = true := by decide +kernel
theorem q_mok127 : q_mok 127 := q_mk (by decide) q_pc127 (by decide +kernel) (by decide +kernel) rfl (by decide +kernel) q_dc127 q_ck127
theorem q_pc128 : Cond.code (q_y 128) (q_b 128) (q_ml 128) (q_rt 128) ∈ q_w0 := List.mem_filter.mpr ⟨List.mem_of_getElem? (i := 1743) (by decide +kernel), by decide +kernel⟩
theorem q_dc128 : ∀ e ∈ q_cd128, decode (q_b 128) e.1 = .ok (e.2.2.1, e.2.1) := by decide +kernel
theorem q_ck128 : q_cd128.all (fun e => q_chk 128 e.1 e.2.1 e.2.2.1 e.2.2.2.1 e.2.2.2.2.1 e.2.2.2.2.2) = true := by decide +kernel
theorem q_mok128 : q_mok 128 := q_mk (by decide) q_pc128 (by decide +kernel) (by decide +kernel) rfl (by decide +kernel) q_dc128 q_ck128
theorem q_pc129 : Cond.code (q_y 129) (q_b 129) (q_ml 129) (q_rt 129) ∈ q_w0 := List.mem_filter.mpr ⟨List.mem_of_getElem? (i := 1747) (by decide +kernel), by decide +kernel⟩
theorem q_dc129 : ∀ e ∈ q_cd129, decode (q_b 129) e.1 = .ok (e.2.2.1, e.2.1) := by decide +kernel
theorem q_ck129 : q_cd129.all (fun e => q_chk 129 e.1 e.2.1 e.2.2.1 e.2.2.2.1 e.2.2.2.2.1 e.2.2.2.2.2) = true := by decide +kernel
theorem q_mok129 : q_mok 129 := q_mk (by decide) q_pc129 (by decide +kernel) (by decide +kernel) rfl (by decide +kernel) q_dc129 q_ck129
theorem q_pc130 : Cond.code (q_y 130) (q_b 130) (q_ml 130) (q_rt 130) ∈ q_w0 := List.mem_filter.mpr ⟨List.mem_of_getElem? (i := 1739) (by decide +kernel), by decide +kernel⟩
theorem q_dc130 : ∀ e ∈ q_cd130, decode (q_b 130) e.1 = .ok (e.2.2.1, e.2.1) := by decide +kernel
theorem q_ck130 : q_cd130.all (fun e => q_chk 130 e.1 e.2.1 e.2.2.1 e.2.2.2.1 e.2.2.2.2.1 e.2.2.2.2.2) = true := by decide +kernel
theorem q_mok130 : q_mok 130 := q_mk (by decide) q_pc130 (by decide +kernel) (by decide +kernel) rfl (by decide +kernel) q_dc130 q_ck130
theorem q_pc131 : Cond.code (q_y 131) (q_b 131) (q_ml 131) (q_rt 131) ∈ q_w0 := List.mem_filter.mpr ⟨List.mem_of_getElem? (i := 1767) (by decide +kernel), by decide +kernel⟩
theorem q_dc131 : ∀ e ∈ q_cd131, decode (q_b 131) e.1 = .ok (e.2.2.1, e.2.1) := by decide +kernel
theorem q_ck131 : q_cd131.all (fun e => q_chk 131 e.1 e.2.1 e.2.2.1 e.2.2.2.1 e.2.2.2.2.1 e.2.2.2.2.2) = true := by decide +kernel
theorem q_mok131 : q_mok 131 := q_mk (by decide) q_pc131 (by decide +kernel) (by decide +kernel) rfl (by decide +kernel) q_dc131 q_ck131
theorem q_pc132 : Cond.code (q_y 132) (q_b 132) (q_ml 132) (q_rt 132) ∈ q_w0 := List.mem_filter.mpr ⟨List.mem_of_getElem? (i := 1775) (by decide +kernel), by decide +kernel⟩
theorem q_dc132 : ∀ e ∈ q_cd132, decode (q_b 132) e.1 = .ok (e.2.2.1, e.2.1) := by decide +kernel
theorem q_ck132 : q_cd132.all (fun e => q_chk 132 e.1 e.2.1 e.2.2.1 e.2.2.2.1 e.2.2.2.2.1 e.2.2.2.2.2) = true := by decide +kernel
theorem q_mok132 : q_mok 132 := q_mk (by decide) q_pc132 (by decide +kernel) (by decide +kernel) rfl (by decide +kernel) q_dc132 q_ck132
theorem q_pc133 : Cond.code (q_y 133) (q_b 133) (q_ml 133) (q_rt 133) ∈ q_w0 := List.mem_filter.mpr ⟨List.mem_of_getElem? (i := 1779) (by decide +kernel), by decide +kernel⟩
theorem q_dc133 : ∀ e ∈ q_cd133, decode (q_b 133) e.1 = .ok (e.2.2.1, e.2.1) := by decide +kernel
theorem q_ck133 : q_cd133.all (fun e => q_chk 133 e.1 e.2.1 e.2.2.1 e.2.2.2.1 e.2.2.2.2.1 e.2.2.2.2.2) = true := by decide +kernel
theorem q_mok133 : q_mok 133 := q_mk (by decide) q_pc133 (by decide +kernel) (by decide +kernel) rfl (by decide +kernel) q_dc133 q_ck133
theorem q_pc134 : Cond.code (q_y 134) (q_b 134) (q_ml 134) (q_rt 134) ∈ q_w0 := List.mem_filter.mpr ⟨List.mem_of_getElem? (i := 1016) (by decide +kernel), by decide +kernel⟩
theorem q_dc134 : ∀ e ∈ q_cd134, decode (q_b 134) e.1 = .ok (e.2.2.1, e.2.1) := by decide +kernel
theorem q_ck134 : q_cd134.all (fun e => q_chk 134 e.1 e.2.1 e.2.2.1 e.2.2.2.1 e.2.2.2.2.1 e.2.2.2.2.2) = true := by decide +kernel
theorem q_mok134 : q_mok 134 := q_mk (by decide) q_pc134 (by decide +kernel) (by decide +kernel) rfl (by decide +kernel) q_dc134 q_ck134
theorem q_pc135 : Cond.code (q_y 135) (q_b 135) (q_ml 135) (q_rt 135) ∈ q_w0 := List.mem_filter.mpr ⟨List.mem_of_getElem? (i := 1835) (by decide +kernel), by decide +kernel⟩
theorem q_dc135 : ∀ e ∈ q_cd135, decode (q_b 135) e.1 = .ok (e.2.2.1, e.2.1) := by decide +kernel
theorem q_ck135 : q_cd135.all (fun e => q_chk 135 e.1 e.2.1 e.2.2.1 e.2.2.2.1 e.2.2.2.2.1 e.2.2.2.2.2) = true := by decide +kernel
theorem q_mok135 : q_mok 135 := q_mk (by decide) q_pc135 (by decide +kernel) (by decide +kernel) rfl (by decide +kernel) q_dc135 q_ck135
theorem q_pc136 : Cond.code (q_y 136) (q_b 136) (q_ml 136) (q_rt 136) ∈ q_w0 := List.mem_filter.mpr ⟨List.mem_of_getElem? (i := 1699) (by decide +kernel), by decide +kernel⟩
theorem q_dc136 : ∀ e ∈ q_cd136, decode (q_b 136) e.1 = .ok (e.2.2.1, e.2.1) := by decide +kernel
theorem q_ck136 : q_cd136.all (fun e => q_chk 136 e.1 e.2.1 e.2.2.1 e.2.2.2.1 e.2.2.2.2.1 e.2.2.2.2.2) = true := by decide +kernel
theorem q_mok136 : q_mok 136 := q_mk (by decide) q_pc136 (by decide +kernel) (by decide +kernel) rfl (by decide +kernel) q_dc136 q_ck136
theorem q_pc137 : Cond.code (q_y 137) (q_b 137) (q_ml 137) (q_rt 137) ∈ q_w0 := List.mem_filter.mpr ⟨List.mem_of_getElem? (i := 1863) (by decide +kernel), by decide +kernel⟩
theorem q_dc137 : ∀ e ∈ q_cd137, decode (q_b 137) e.1 = .ok (e.2.2.1, e.2.1) := by decide +kernel
theorem q_ck137 : q_cd137.all (fun e => q_chk 137 e.1 e.2.1 e.2.2.1 e.2.2.2.1 e.2.2.2.2.1 e.2.2.2.2.2) = true := by decide +kernel
theorem q_mok137 : q_mok 137 := q_mk (by decide) q_pc137 (by decide +kernel) (by decide +kernel) rfl (by decide +kernel) q_dc137 q_ck137
theorem q_pc138 : Cond.code (q_y 138) (q_b 138) (q_ml 138) (q_rt 138) ∈ q_w0 := List.mem_filter.mpr ⟨List.mem_of_getElem? (i := 1088) (by decide +kernel), by decide +kernel⟩
theorem q_dc138 : ∀ e ∈ q_cd138, decode (q_b 138) e.1 = .ok (e.2.2.1, e.2.1) := by decide +kernel
theorem q_ck138 : q_cd138.all (fun e => q_chk 138 e.1 e.2.1 e.2.2.1 e.2.2.2.1 e.2.2.2.2.1 e.2.2.2.2.2) = true := by decide +kernel
theorem q_mok138 : q_mok 138 := q_mk (by decide) q_pc138 (by decide +kernel) (by decide +kernel) rfl (by decide +kernel) q_dc138 q_ck138
theorem q_pc139 : Cond.code (q_y 139) (q_b 139) (q_ml 139) (q_rt 139) ∈ q_w0 := List.mem_filter.mpr ⟨List.mem_of_getElem? (i := 1655) (by decide +kernel), by decide +kernel⟩
theorem q_dc139 : ∀ e ∈ q_cd139, decode (q_b 139) e.1 = .ok (e.2.2.1, e.2.1) := by decide +kernel
theorem q_ck139 : q_cd139.all (fun e => q_chk 139 e.1 e.2.1 e.2.2.1 e.2.2.2.1 e.2.2.2.2.1 e.2.2.2.2.2) = true := by decide +kernel
theorem q_mok139 : q_mok 139 := q_mk (by decide) q_pc139 (by decide +kernel) (by decide +kernel) rfl (by decide +kernel) q_dc139 q_ck139
theorem q_pc140 : Cond.code (q_y 140) (q_b 140) (q_ml 140) (q_rt 140) ∈ q_w0 := List.mem_filter.mpr ⟨List.mem_of_getElem? (i := 1195) (by decide +kernel), by decide +kernel⟩
theorem q_dc140 : ∀ e ∈ q_cd140, decode (q_b 140) e.1 = .ok (e.2.2.1, e.2.1) := by decide +kernel
theorem q_ck140 : q_cd140.all (fun e => q_chk 140 e.1 e.2.1 e.2.2.1 e.2.2.2.1 e.2.2.2.2.1 e.2.2.2.2.2) = true := by decide +kernel
theorem q_mok140 : q_mok 140 := q_mk (by decide) q_pc140 (by decide +kernel) (by decide +kernel) rfl (by decide +kernel) q_dc140 q_ck140
theorem q_pc141 : Cond.code (q_y 141) (q_b 141) (q_ml 141) (q_rt 141) ∈ q_w0 := List.mem_filter.mpr ⟨List.mem_of_getElem? (i := 1896) (by decide +kernel), by decide +kernel⟩
theorem q_dc141 : ∀ e ∈ q_cd141, decode (q_b 141) e.1 = .ok (e.2.2.1, e.2.1) := by decide +kernel
theorem q_ck141 : q_cd141.all (fun e => q_chk 141 e.1 e.2.1 e.2.2.1 e.2.2.2.1 e.2.2.2.2.1 e.2.2.2.2.2) = true := by decide +kernel
theorem q_mok141 : q_mok 141 := q_mk (by decide) q_pc141 (by decide +kernel) (by decide +kernel) rfl (by decide +kernel) q_dc141 q_ck141
theorem q_pc142 : Cond.code (q_y 142) (q_b 142) (q_ml 142) (q_rt 142) ∈ q_w0 := List.mem_filter.mpr ⟨List.mem_of_getElem? (i := 130) (by decide +kernel), by decide +kernel⟩
theorem q_dc142 : ∀ e ∈ q_cd142, decode (q_b 142) e.1 = .ok (e.2.2.1, e.2.1) := by decide +kernel
theorem q_ck142 : q_cd142.all (fun e => q_chk 142 e.1 e.2.1 e.2.2.1 e.2.2.2.1 e.2.2.2.2.1 e.2.2.2.2.2) = true := by decide +kernel
theorem q_mok142 : q_mok 142 := q_mk (by decide) q_pc142 (by decide +kernel) (by decide +kernel) rfl (by decide +kernel) q_dc142 q_ck142
theorem q_pc143 : Cond.code (q_y 143) (q_b 143) (q_ml 143) (q_rt 143) ∈ q_w0 := List.mem_filter.mpr ⟨List.mem_of_getElem? (i := 138) (by decide +kernel), by decide +kernel⟩
theorem q_dc143 : ∀ e ∈ q_cd143, decode (q_b 143) e.1 = .ok (e.2.2.1, e.2.1) := by decide +kernel
theorem q_ck143 : q_cd143.all (fun e => q_chk 143 e.1 e.2.1 e.2.2.1 e.2.2.2.1 e.2.2.2.2.1 e.2.2.2.2.2) = true := by decide +kernel
theorem q_mok143 : q_mok 143 := q_mk (by decide) q_pc143 (by decide +kernel) (by decide +kernel) rfl (by decide +kernel) q_dc143 q_ck143
theorem q_pc144 : Cond.code (q_y 144) (q_b 144) (q_ml 144) (q_rt 144) ∈ q_w0 := List.mem_filter.mpr ⟨List.mem_of_getElem? (i := 282) (by decide +kernel), by decide +kernel⟩
theorem q_dc144 : ∀ e ∈ q_cd144, decode (q_b 144) e.1 = .ok (e.2.2.1, e.2.1) := by decide +kernel
theorem q_ck144 : q_cd144.all (fun e => q_chk 144 e.1 e.2.1 e.2.2.1 e.2.2.2.1 e.2.2.2.2.1 e.2.2.2.2.2) = true := by decide +kernel
theorem q_mok144 : q_mok 144 := q_mk (by decide) q_pc144 (by decide +kernel) (by decide +kernel) rfl (by decide +kernel) q_dc144 q_ck144
theorem q_pc145 : Cond.code (q_y 145) (q_b 145) (q_ml 145) (q_rt 145) ∈ q_w0 := List.mem_filter.mpr ⟨List.mem_of_getElem? (i := 382) (by decide +kernel), by decide +kernel⟩
theorem q_dc145 : ∀ e ∈ q_cd145, decode (q_b 145) e.1 = .ok (e.2.2.1, e.2.1) := by decide +kernel
theorem q_ck145 : q_cd145.all (fun e => q_chk 145 e.1 e.2.1 e.2.2.1 e.2.2.2.1 e.2.2.2.2.1 e.2.2.2.2.2) = true := by decide +kernel
theorem q_mok145 : q_mok 145 := q_mk (by decide) q_pc145 (by decide +kernel) (by decide +kernel) rfl (by decide +kernel) q_dc145 q_ck145
theorem q_pc146 : Cond.code (q_y 146) (q_b 146) (q_ml 146) (q_rt 146) ∈ q_w0 := List.mem_filter.mpr ⟨List.mem_of_getElem? (i := 405) (by decide +kernel), by decide +kernel⟩
theorem q_dc146 : ∀ e ∈ q_cd146, decode (q_b 146) e.1 = .ok (e.2.2.1, e.2.1) := by decide +kernel
theorem q_ck146 : q_cd146.all (fun e => q_chk 146 e.1 e.2.1 e.2.2.1 e.2.2.2.1 e.2.2.2.2.1 e.2.2.2.2.2) = true := by decide +kernel
theorem q_mok146 : q_mok 146 := q_mk (by decide) q_pc146 (by decide +kernel) (by decide +kernel) rfl (by decide +kernel) q_dc146 q_ck146
theorem q_pc147 : Cond.code (q_y 147) (q_b 147) (q_ml 147) (q_rt 147) ∈ q_w0 := List.mem_filter.mpr ⟨List.mem_of_getElem? (i := 429) (by decide +kernel), by decide +kernel⟩
theorem q_dc147 : ∀ e ∈ q_cd147, decode (q_b 147) e.1 = .ok (e.2.2.1, e.2.1) := by decide +kernel
theorem q_ck147 : q_cd147.all (fun e => q_chk 147 e.1 e.2.1 e.2.2.1 e.2.2.2.1 e.2.2.2.2.1 e.2.2.2.2.2) = true := by decide +kernel
theorem q_mok147 : q_mok 147 := q_mk (by decide) q_pc147 (by decide +kernel) (by decide +kernel) rfl (by decide +kernel) q_dc147 q_ck147
theorem q_pc148 : Cond.code (q_y 148) (q_b 148) (q_ml 148) (q_rt 148) ∈ q_w0 := List.mem_filter.mpr ⟨List.mem_of_getElem? (i := 1218) (by decide +kernel), by decide +kernel⟩
theorem q_dc148 : ∀ e ∈ q_cd148, decode (q_b 148) e.1 = .ok (e.2.2.1, e.2.1) := by decide +kernel
theorem q_ck148 : q_cd148.all (fun e => q_chk 148 e.1 e.2.1 e.2.2.1 e.2.2.2.1 e.2.2.2.2.1 e.2.2.2.2.2) = true := by decide +kernel
theorem q_mok148 : q_mok 148 := q_mk (by decide) q_pc148 (by decide +kernel) (by decide +kernel) rfl (by decide +kernel) q_dc148 q_ck148
theorem q_pc149 : Cond.code (q_y 149) (q_b 149) (q_ml 149) (q_rt 149) ∈ q_w0 := List.mem_filter.mpr ⟨List.mem_of_getElem? (i := 536) (by decide +kernel), by decide +kernel⟩
theorem q_dc149 : ∀ e ∈ q_cd149, decode (q_b 149) e.1 = .ok (e.2.2.1, e.2.1) := by decide +kernel
theorem q_ck149 : q_cd149.all (fun e => q_chk 149 e.1 e.2.1 e.2.2.1 e.2.2.2.1 e.2.2.2.2.1 e.2.2.2.2.2) = true := by decide +kernel
theorem q_mok149 : q_mok 149 := q_mk (by decide) q_pc149 (by decide +kernel) (by decide +kernel) rfl (by decide +kernel) q_dc149 q_ck149
theorem q_pc150 : Cond.code (q_y 150) (q_b 150) (q_ml 150) (q_rt 150) ∈ q_w0 := List.mem_filter.mpr ⟨List.mem_of_getElem? (i := 1912) (by decide +kernel), by decide +kernel⟩
theorem q_dc150 : ∀ e ∈ q_cd150, decode (q_b 150) e.1 = .ok (e.2.2.1, e.2.1) := by decide +kernel
theorem q_ck150 : q_cd150.all (fun e => q_chk 150 e.1 e.2.1 e.2.2.1 e.2.2.2.1 e.2.2.2.2.1 e.2.2.2.2.2) = true := by decide +kernel
theorem q_mok150 : q_mok 150 := q_mk (by decide) q_pc150 (by decide +kernel) (by decide +kernel) rfl (by decide +kernel) q_dc150 q_ck150
theorem q_pc151 : Cond.code (q_y 151) (q_b 151) (q_ml 151) (q_rt 151) ∈ q_w0 := List.mem_filter.mpr ⟨List.mem_of_getElem? (i := 548) (by decide +kernel), by decide +kernel⟩
theorem q_dc151 : ∀ e ∈ q_cd151, decode (q_b 151) e.1 = .ok (e.2.2.1, e.2.1) := by decide +kernel
theorem q_ck151 : q_cd151.all (fun e => q_chk 151 e.1 e.2.1 e.2.2.1 e.2.2.2.1 e.2.2.2.2.1 e.2.2.2.2.2) = true := by decide +kernel
theorem q_mok151 : q_mok 151 := q_mk (by decide) q_pc151 (by decide +kernel) (by decide +kernel) rfl (by decide +kernel) q_dc151 q_ck151
theorem q_pc152 : Cond.code (q_y 152) (q_b 152) (q_ml 152) (q_rt 152) ∈ q_w0 := List.mem_filter.mpr ⟨List.mem_of_getElem? (i := 552) (by decide +kernel), by decide +kernel⟩
theorem q_dc152 : ∀ e ∈ q_cd152, decode (q_b 152) e.1 = .ok (e.2.2.1, e.2.1) := by decide +kernel
theorem q_ck152 : q_cd152.all (fun e => q_chk 152 e.1 e.2.1 e.2.2.1 e.2.2.2.1 e.2.2.2.2.1 e.2.2.2.2.2) = true := by decide +kernel
theorem q_mok152 : q_mok 152 := q_mk (by decide) q_pc152 (by decide +kernel) (by decide +kernel) rfl (by decide +kernel) q_dc152 q_ck152
theorem q_pc153 : Cond.code (q_y 153) (q_b 153) (q_ml 153) (q_rt 153) ∈ q_w0 := List.mem_filter.mpr ⟨List.mem_of_getElem? (i := 557) (by decide +kernel), by decide +kernel⟩
theorem q_dc153 : ∀ e ∈ q_cd153, decode (q_b 153) e.1 = .ok (e.2.2.1, e.2.1) := by decide +kernel
theorem q_ck153 : q_cd153.all (fun e => q_chk 153 e.1 e.2.1 e.2.2.1 e.2.2.2.1 e.2.2.2.2.1 e.2.2.2.2.2) = true := by decide +kernel
theorem q_mok153 : q_mok 153 := q_mk (by decide) q_pc153 (by decide +kernel) (by decide +kernel) rfl (by decide +kernel) q_dc153 q_ck153
theorem q_pc154 : Cond.code (q_y 154) (q_b 154) (q_ml 154) (q_rt 154) ∈ q_w0 := List.mem_filter.mpr ⟨List.mem_of_getElem? (i := 561) (by decide +kernel), by decide +kernel⟩
theorem q_dc154 : ∀ e ∈ q_cd154, decode (q_b 154) e.1 = .ok (e.2.2.1, e.2.1) := by decide +kernel
theorem q_ck154 : q_cd154.all (fun e => q_chk 154 e.1 e.2.1 e.2.2.1 e.2.2.2.1 e.2.2.2.2.1 e.2.2.2.2.2) = true := by decide +kernel
theorem q_mok154 : q_mok 154 := q_mk (by decide) q_pc154 (by decide +kernel) (by decide +kernel) rfl (by decide +kernel) q_dc154 q_ck154
theorem q_pc155 : Cond.code (q_y 155) (q_b 155) (q_ml 155) (q_rt 155) ∈ q_w0 := List.mem_filter.mpr ⟨List.mem_of_getElem? (i := 565) (by decide +kernel), by decide +kernel⟩
theorem q_dc155 : ∀ e ∈ q_cd155, decode (q_b 155) e.1 = .ok (e.2.2.1, e.2.1) := by decide +kernel
theorem q_ck155 : q_cd155.all (fun e => q_chk 155 e.1 e.2.1 e.2.2.1 e.2.2.2.1 e.2.2.2.2.1 e.2.2.2.2.2) = true := by decide +kernel
theorem q_mok155 : q_mok 155 := q_mk (by decide) q_pc155 (by decide +kernel) (by decide +kernel) rfl (by decide +kernel) q_dc155 q_ck155
theorem q_pc156 : Cond.code (q_y 156) (q_b 156) (q_ml 156) (q_rt 156) ∈ q_w0 := List.mem_filter.mpr ⟨List.mem_of_getElem? (i := 571) (by decide +kernel), by decide +kernel⟩
theorem q_dc156 : ∀ e ∈ q_cd156, decode (q_b 156) e.1 = .ok (e.2.2.1, e.2.1) := by decide +kernel
theorem q_ck156 : q_cd156.all (fun e => q_chk 156 e.1 e.2.1 e.2.2.1 e.2.2.2.1 e.2.2.2.2.1 e.2.2.2.2.2) = true := by decide +kernel
theorem q_mok156 : q_mok 156 := q_mk (by decide) q_pc156 (by decide +kernel) (by decide +kernel) rfl (by decide +kernel) q_dc156 q_ck156
theorem q_pc157 : Cond.code (q_y 157) (q_b 157) (q_ml 157) (q_rt 157) ∈ q_w0 := List.mem_filter.mpr ⟨List.mem_of_getElem? (i := 628) (by decide +kernel), by decide +kernel⟩
theorem q_dc157 : ∀ e ∈ q_cd157, decode (q_b 157) e.1 = .ok (e.2.2.1, e.2.1) := by decide +kernel
theorem q_ck157 : q_cd157.all (fun e => q_chk 157 e.1 e.2.1 e.2.2.1 e.2.2.2.1 e.2.2.2.2.1 e.2.2.2.2.2) = true := by decide +kernel
theorem q_mok157 : q_mok 157 := q_mk (by decide) q_pc157 (by decide +kernel) (by decide +kernel) rfl (by decide +kernel) q_dc157 q_ck157
theorem q_pc158 : Cond.code (q_y 158) (q_b 158) (q_ml 158) (q_rt 158) ∈ q_w0 := List.mem_filter.mpr ⟨List.mem_of_getElem? (i := 1449) (by decide +kernel), by decide +kernel⟩
theorem q_dc158 : ∀ e ∈ q_cd158, decode (q_b 158) e.1 = .ok (e.2.2.1, e.2.1) := by decide +kernel
theorem q_ck158 : q_cd158.all (fun e => q_chk 158 e.1 e.2.1 e.2.2.1 e.2.2.2.1 e.2.2.2.2.1 e.2.2.2.2.2) = true := by decide +kernel
theorem q_mok158 : q_mok 158 := q_mk (by decide) q_pc158 (by decide +kernel) (by decide +kernel) rfl (by decide +kernel) q_dc158 q_ck158
theorem q_pc159 : Cond.code (q_y 159) (q_b 159) (q_ml 159) (q_rt 159) ∈ q_w0 := List.mem_filter.mpr ⟨List.mem_of_getElem? (i := 1453) (by decide +kernel), by decide +kernel⟩
theorem q_dc159 : ∀ e ∈ q_cd159, decode (q_b 159) e.1 = .ok (e.2.2.1, e.2.1) := by decide +kernel
theorem q_ck159 : q_cd159.all (fun e => q_chk 159 e.1 e.2.1 e.2.2.1 e.2.2.2.1 e.2.2.2.2.1 e.2.2.2.2.2) = true := by decide +kernel
theorem q_mok159 : q_mok 159 := q_mk (by decide) q_pc159 (by decide +kernel) (by decide +kernel) rfl (by decide +kernel) q_dc159 q_ck159
theorem q_pc160 : Cond.code (q_y 160) (q_b 160) (q_ml 160) (q_rt 160) ∈ q_w0 := List.mem_filter.mpr ⟨List.mem_of_getElem? (i := 1457) (by decide +kernel), by decide +kernel⟩
theorem q_dc160 : ∀ e ∈ q_cd160, decode (q_b 160) e.1 = .ok (e.2.2.1, e.2.1) := by decide +kernel
theorem q_ck160 : q_cd160.all (fun e => q_chk 160 e.1 e.2.1 e.2.2.1 e.2.2.2.1 e.2.2.2.2.1 e.2.2.2.2.2) = true := by decide +kernel
theorem q_mok160 : q_mok 160 := q_mk (by decide) q_pc160 (by decide +kernel) (by decide +kernel) rfl (by decide +kernel) q_dc160 q_ck160
theorem q_pc161 : Cond.code (q_y 161) (q_b 161) (q_ml 161) (q_rt 161) ∈ q_w0 := List.mem_filter.mpr ⟨List.mem_of_getElem? (i := 811) (by decide +kernel), by decide +kernel⟩
theorem q_dc161 : ∀ e ∈ q_cd161, decode (q_b 161) e.1 = .ok (e.2.2.1, e.2.1) := by decide +kernel
theorem q_ck161 : q_cd161.all (fun e => q_chk 161 e.1 e.2.1 e.2.2.1 e.2.2.2.1 e.2.2.2.2.1 e.2.2.2.2.2) = true := by decide +kernel
theorem q_mok161 : q_mok 161 := q_mk (by decide) q_pc161 (by decide +kernel) (by decide +kernel) rfl (by decide +kernel) q_dc161 q_ck161
theorem q_pc162 : Cond.code (q_y 162) (q_b 162) (q_ml 162) (q_rt 162) ∈ q_w0 := List.mem_filter.mpr ⟨List.mem_of_getElem? (i := 1617) (by decide +kernel), by decide +kernel⟩
theorem q_dc162 : ∀ e ∈ q_cd162, decode (q_b 162) e.1 = .ok (e.2.2.1, e.2.1) := by decide +kernel
theorem q_ck162 : q_cd162.all (fun e => q_chk 162 e.1 e.2.1 e.2.2.1 e.2.2.2.1 e.2.2.2.2.1 e.2.2.2.2.2) = true := by decide +kernel
theorem q_mok162 : q_mok 162 := q_mk (by decide) q_pc162 (by decide +kernel) (by decide +kernel) rfl (by decide +kernel) q_dc162 q_ck162
theorem q_pc163 : Cond.code (q_y 163) (q_b 163) (q_ml 163) (q_rt 163) ∈ q_w0 := List.mem_filter.mpr ⟨List.mem_of_getElem? (i := 874) (by decide +kernel), by decide +kernel⟩
theorem q_dc163 : ∀ e ∈ q_cd163, decode (q_b 163) e.1 = .ok (e.2.2.1, e.2.1) := by decide +kernel
theorem q_ck163 : q_cd163.all (fun e => q_chk 163 e.1 e.2.1 e.2.2.1 e.2.2.2.1 e.2.2.2.2.1 e.2.2.2.2.2) = true := by decide +kernel
theorem q_mok163 : q_mok 163 := q_mk (by decide) q_pc163 (by decide +kernel) (by decide +kernel) rfl (by decide +kernel) q_dc163 q_ck163
theorem q_pc164 : Cond.code (q_y 164) (q_b 164) (q_ml 164) (q_rt 164) ∈ q_w0 := List.mem_filter.mpr ⟨List.mem_of_getElem? (i := 878) (by decide +kernel), by decide +kernel⟩
theorem q_dc164 : ∀ e ∈ q_cd164, decode (q_b 164) e.1 = .ok (e.2.2.1, e.2.1) := by decide +kernel
theorem q_ck164 : q_cd164.all (fun e => q_chk 164 e.1 e.2.1 e.2.2.1 e.2.2.2.1 e.2.2.2.2.1 e.2.2.2.2.2) = true := by decide +kernel
theorem q_mok164 : q_mok 164 := q_mk (by decide) q_pc164 (by decide +kernel) (by decide +kernel) rfl (by decide +kernel) q_dc164 q_ck164
theorem q_pc165 : Cond.code (q_y 165) (q_b 165) (q_ml 165) (q_rt 165) ∈ q_w0 := List.mem_filter.mpr ⟨List.mem_of_getElem? (i := 1675) (by decide +kernel), by decide +kernel⟩
theorem q_dc165 : ∀ e ∈ q_cd165, decode (q_b 165) e.1 = .ok (e.2.2.1, e.2.1) := by decide +kernel
theorem q_ck165 : q_cd165.all (fun e => q_chk 165 e.1 e.2.1 e.2.2.1 e.2.2.2.1 e.2.2.2.2.1 e.2.2.2.2.2) = true := by decide +kernel
theorem q_mok165 : q_mok 165 := q_mk (by decide) q_pc165 (by decide +kernel) (by decide +kernel) rfl (by decide +kernel) q_dc165 q_ck165
theorem q_pc166 : Cond.code (q_y 166) (q_b 166) (q_ml 166) (q_rt 166) ∈ q_w0 := List.mem_filter.mpr ⟨List.mem_of_getElem? (i := 1679) (by decide +kernel), by decide +kernel⟩
theorem q_dc166 : ∀ e ∈ q_cd166, decode (q_b 166) e.1 = .ok (e.2.2.1, e.2.1) := by decide +kernel
theorem q_ck166 : q_cd166.all (fun e => q_chk 166 e.1 e.2.1 e.2.2.1 e.2.2.2.1 e.2.2.2.2.1 e.2.2.2.2.2) = true := by decide +kernel
theorem q_mok166 : q_mok 166 := q_mk (by decide) q_pc166 (by decide +kernel) (by decide +kernel) rfl (by decide +kernel) q_dc166 q_ck166
theorem q_pc167 : Cond.code (q_y 167) (q_b 167) (q_ml 167) (q_rt 167) ∈ q_w0 := List.mem_filter.mpr ⟨List.mem_of_getElem? (i := 882) (by decide +kernel), by decide +kernel⟩
theorem q_dc167 : ∀ e ∈ q_cd167, decode (q_b 167) e.1 = .ok (e.2.2.1, e.2.1) := by decide +kernel
theorem q_ck167 : q_cd167.all (fun e => q_chk 167 e.1 e.2.1 e.2.2.1 e.2.2.2.1 e.2.2.2.2.1 e.2.2.2.2.2) = true := by decide +kernel
theorem q_mok167 : q_mok 167 := q_mk (by decide) q_pc167 (by decide +kernel) (by decide +kernel) rfl (by decide +kernel) q_dc167 q_ck167
theorem q_pc168 : Cond.code (q_y 168) (q_b 168) (q_ml 168) (q_rt 168) ∈ q_w0 := List.mem_filter.mpr ⟨List.mem_of_getElem? (i := 886) (by decide +kernel), by decide +kernel⟩
theorem q_dc168 : ∀ e ∈ q_cd168, decode (q_b 168) e.1 = .ok (e.2.2.1, e.2.1) := by decide +kernel
theorem q_ck168 : q_cd168.all (fun e => q_chk 168 e.1 e.2.1 e.2.2.1 e.2.2.2.1 e.2.2.2.2.1 e.2.2.2.2.2) = true := by decide +kernel
theorem q_mok168 : q_mok 168 := q_mk (by decide) q_pc168 (by decide +kernel) (by decide +kernel) rfl (by decide +kernel) q_dc168 q_ck168
theorem q_pc169 : Cond.code (q_y 169) (q_b 169) (q_ml 169) (q_rt 169) ∈ q_w0 := List.mem_filter.mpr ⟨List.mem_of_getElem? (i := 1683) (by decide +kernel), by decide +kernel⟩
theorem q_dc169 : ∀ e ∈ q_cd169, decode (q_b 169) e.1 = .ok (e.2.2.1, e.2.1) := by decide +kernel
theorem q_ck169 : q_cd169.all (fun e => q_chk 169 e.1 e.2.1 e.2.2.1 e.2.2.2.1 e.2.2.2.2.1 e.2.2.2.2.2) = true := by decide +kernel
theorem q_mok169 : q_mok 169 := q_mk (by decide) q_pc169 (by decide +kernel) (by decide +kernel) rfl (by decide +kernel) q_dc169 q_ck169
theorem q_pc170 : Cond.code (q_y 170) (q_b 170) (q_ml 170) (q_rt 170) ∈ q_w0 := List.mem_filter.mpr ⟨List.mem_of_getElem? (i := 891) (by decide +kernel), by decide +kernel⟩
theorem q_dc170 : ∀ e ∈ q_cd170, decode (q_b 170) e.1 = .ok (e.2.2.1, e.2.1) := by decide +kernel
theorem q_ck170 : q_cd170.all (fun e => q_chk 170 e.1 e.2.1 e.2.2.1 e.2.2.2.1 e.2.2.2.2.1 e.2.2.2.2.2) = true := by decide +kernel
theorem q_mok170 : q_mok 170 := q_mk (by decide) q_pc170 (by decide +kernel) (by decide +kernel) rfl (by decide +kernel) q_dc170 q_ck170
theorem q_pc171 : Cond.code (q_y 171) (q_b 171) (q_ml 171) (q_rt 171) ∈ q_w0 := List.mem_filter.mpr ⟨List.mem_of_getElem? (i := 1687) (by decide +kernel), by decide +kernel⟩
theorem q_dc171 : ∀ e ∈ q_cd171, decode (q_b 171) e.1 = .ok (e.2.2.1, e.2.1) := by decide +kernel
theorem q_ck171 : q_cd171.all (fun e => q_chk 171 e.1 e.2.1 e.2.2.1 e.2.2.2.1 e.2.2.2.2.1 e.2.2.2.2.2) = true := by decide +kernel
theorem q_mok171 : q_mok 171 := q_mk (by decide) q_pc171 (by decide +kernel) (by decide +kernel) rfl (by decide +kernel) q_dc171 q_ck171
theorem q_pc172 : Cond.code (q_y 172) (q_b 172) (q_ml 172) (q_rt 172) ∈ q_w0 := List.mem_filter.mpr ⟨List.mem_of_getElem? (i := 906) (by decide +kernel), by decide +kernel⟩
theorem q_dc172 : ∀ e ∈ q_cd172, decode (q_b 172) e.1 = .ok (e.2.2.1, e.2.1) := by decide +kernel
theorem q_ck172 : q_cd172.all (fun e => q_chk 172 e.1 e.2.1 e.2.2.1 e.2.2.2.1 e.2.2.2.2.1 e.2.2.2.2.2) = true := by decide +kernel
theorem q_mok172 : q_mok 172 := q_mk (by decide) q_pc172 (by decide +kernel) (by decide +kernel) rfl (by decide +kernel) q_dc172 q_ck172
theorem q_pc173 : Cond.code (q_y 173) (q_b 173) (q_ml 173) (q_rt 173) ∈ q_w0 := List.mem_filter.mpr ⟨List.mem_of_getElem? (i := 1695) (by decide +kernel), by decide +kernel⟩
theorem q_dc173 : ∀ e ∈ q_cd173, decode (q_b 173) e.1 = .ok (e.2.2.1, e.2.1) := by decide +kernel
theorem q_ck173 : q_cd173.all (fun e => q_chk 173 e.1 e.2.1 e.2.2.1 e.2.2.2.1 e.2.2.2.2.1 e.2.2.2.2.2) = true := by decide +kernel
theorem q_mok173 : q_mok 173 := q_mk (by decide) q_pc173 (by decide +kernel) (by decide +kernel) rfl (by decide +kernel) q_dc173 q_ck173
theorem q_pc174 : Cond.code (q_y 174) (q_b 174) (q_ml 174) (q_rt 174) ∈ q_w0 := List.mem_filter.mpr ⟨List.mem_of_getElem? (i := 965) (by decide +kernel), by decide +kernel⟩
theorem q_dc174 : ∀ e ∈ q_cd174, decode (q_b 174) e.1 = .ok (e.2.2.1, e.2.1) := by decide +kernel
theorem q_ck174 : q_cd174.all (fun e => q_chk 174 e.1 e.2.1 e.2.2.1 e.2.2.2.1 e.2.2.2.2.1 e.2.2.2.2.2) = true := by decide +kernel
theorem q_mok174 : q_mok 174 := q_mk (by decide) q_pc174 (by decide +kernel) (by decide +kernel) rfl (by decide +kernel) q_dc174 q_ck174
theorem q_pc175 : Cond.code (q_y 175) (q_b 175) (q_ml 175) (q_rt 175) ∈ q_w0 := List.mem_filter.mpr ⟨List.mem_of_getElem? (i := 969) (by decide +kernel), by decide +kernel⟩
theorem q_dc175 : ∀ e ∈ q_cd175, decode (q_b 175) e.1 = .ok (e.2.2.1, e.2.1) := by decide +kernel
theorem q_ck175 : q_cd175.all (fun e => q_chk 175 e.1 e.2.1 e.2.2.1 e.2.2.2.1 e.2.2.2.2.1 e.2.2.2.2.2) = true := by decide +kernel
theorem q_mok175 : q_mok 175 := q_mk (by decide) q_pc175 (by decide +kernel) (by decide +kernel) rfl (by decide +kernel) q_dc175 q_ck175
theorem q_pc176 : Cond.code (q_y 176) (q_b 176) (q_ml 176) (q_rt 176) ∈ q_w0 := List.mem_filter.mpr ⟨List.mem_of_getElem? (i := 973) (by decide +kernel), by decide +kernel⟩
theorem q_dc176 : ∀ e ∈ q_cd176, decode (q_b 176) e.1 = .ok (e.2.2.1, e.2.1) := by decide +kernel
theorem q_ck176 : q_cd176.all (fun e => q_chk 176 e.1 e.2.1 e.2.2.1 e.2.2.2.1 e.2.2.2.2.1 e.2.2.2.2.2) = true := by decide +kernel
theorem q_mok176 : q_mok 176 := q_mk (by decide) q_pc176 (by decide +kernel) (by decide +kernel) rfl (by decide +kernel) q_dc176 q_ck176
theorem q_pc177 : Cond.code (q_y 177) (q_b 177) (q_ml 177) (q_rt 177) ∈ q_w0 := List.mem_filter.mpr ⟨List.mem_of_getElem? (i := 1731) (by decide +kernel), by decide +kernel⟩
theorem q_dc177 : ∀ e ∈ q_cd177, decode (q_b 177) e.1 = .ok (e.2.2.1, e.2.1) := by decide +kernel
theorem q_ck177 : q_cd177.all (fun e => q_chk 177 e.1 e.2.1 e.2.2.1 e.2.2.2.1 e.2.2.2.2.1 e.2.2.2.2.2) = true := by decide +kernel
theorem q_mok177 : q_mok 177 := q_mk (by decide) q_pc177 (by decide +kernel) (by decide +kernel) rfl (by decide +kernel) q_dc177 q_ck177
theorem q_pc178 : Cond.code (q_y 178) (q_b 178) (q_ml 178) (q_rt 178) ∈ q_w0 := List.mem_filter.mpr ⟨List.mem_of_getElem? (i := 1735) (by decide +kernel), by decide +kernel⟩
theorem q_dc178 : ∀ e ∈ q_cd178, decode (q_b 178) e.1 = .ok (e.2.2.1, e.2.1) := by decide +kernel
theorem q_ck178 : q_cd178.all (fun e => q_chk 178 e.1 e.2.1 e.2.2.1 e.2.2.2.1 e.2.2.2.2.1 e.2.2.2.2.2) = true := by decide +kernel
theorem q_mok178 : q_mok 178 := q_mk (by decide) q_pc178 (by decide +kernel) (by decide +kernel) rfl (by decide +kernel) q_dc178 q_ck178
theorem q_pc179 : Cond.code (q_y 179) (q_b 179) (q_ml 179) (q_rt 179) ∈ q_w0 := List.mem_filter.mpr ⟨List.mem_of_getElem? (i := 1000) (by decide +kernel), by decide +kernel⟩
theorem q_dc179 : ∀ e ∈ q_cd179, decode (q_b 179) e.1 = .ok (e.2.2.1, e.2.1) := by decide +kernel
theorem q_ck179 : q_cd179.all (fun e => q_chk 179 e.1 e.2.1 e.2.2.1 e.2.2.2.1 e.2.2.2.2.1 e.2.2.2.2.2) = true := by decide +kernel
theorem q_mok179 : q_mok 179 := q_mk (by decide) q_pc179 (by decide +kernel) (by decide +kernel) rfl (by decide +kernel) q_dc179 q_ck179
theorem q_pc180 : Cond.code (q_y 180) (q_b 180) (q_ml 180) (q_rt 180) ∈ q_w0 := List.mem_filter.mpr ⟨List.mem_of_getElem? (i := 1759) (by decide +kernel), by decide +kernel⟩
theorem q_dc180 : ∀ e ∈ q_cd180, decode (q_b 180) e.1 = .ok (e.2.2.1, e.2.1) := by decide +kernel
theorem q_ck180 : q_cd180.all (fun e => q_chk 180 e.1 e.2.1 e.2.2.1 e.2.2.2.1 e.2.2.2.2.1 e.2.2.2.2.2) = true := by decide +kernel
theorem q_mok180 : q_mok 180 := q_mk (by decide) q_pc180 (by decide +kernel) (by decide +kernel) rfl (by decide +kernel) q_dc180 q_ck180
theorem q_pc181 : Cond.code (q_y 181) (q_b 181) (q_ml 181) (q_rt 181) ∈ q_w0 := List.mem_filter.mpr ⟨List.mem_of_getElem? (i := 1062) (by decide +kernel), by decide +kernel⟩
theorem q_dc181 : ∀ e ∈ q_cd181, decode (q_b 181) e.1 = .ok (e.2.2.1, e.2.1) := by decide +kernel
theorem q_ck181 : q_cd181.all (fun e => q_chk 181 e.1 e.2.1 e.2.2.1 e.2.2.2.1 e.2.2.2.2.1 e.2.2.2.2.2) = true := by decide +kernel
theorem q_mok181 : q_mok 181 := q_mk (by decide) q_pc181 (by decide +kernel) (by decide +kernel) rfl (by decide +kernel) q_dc181 q_ck181
theorem q_pc182 : Cond.code (q_y 182) (q_b 182) (q_ml 182) (q_rt 182) ∈ q_w0 := List.mem_filter.mpr ⟨List.mem_of_getElem? (i := 1066) (by decide +kernel), by decide +kernel⟩
theorem q_dc182 : ∀ e ∈ q_cd182, decode (q_b 182) e.1 = .ok (e.2.2.1, e.2.1) := by decide +kernel
theorem q_ck182 : q_cd182.all (fun e => q_chk 182 e.1 e.2.1 e.2.2.1 e.2.2.2.1 e.2.2.2.2.1 e.2.2.2.2.2) = true := by decide +kernel
theorem q_mok182 : q_mok 182 := q_mk (by decide) q_pc182 (by decide +kernel) (by decide +kernel) rfl (by decide +kernel) q_dc182 q_ck182
theorem q_pc183 : Cond.code (q_y 183) (q_b 183) (q_ml 183) (q_rt 183) ∈ q_w0 := List.mem_filter.mpr ⟨List.mem_of_getElem? (i := 1815) (by decide +kernel), by decide +kernel⟩
theorem q_dc183 : ∀ e ∈ q_cd183, decode (q_b 183) e.1 = .ok (e.2.2.1, e.2.1) := by decide +kernel
theorem q_ck183 : q_cd183.all (fun e => q_chk 183 e.1 e.2.1 e.2.2.1 e.2.2.2.1 e.2.2.2.2.1 e.2.2.2.2.2) = true := by decide +kernel
theorem q_mok183 : q_mok 183 := q_mk (by decide) q_pc183 (by decide +kernel) (by decide +kernel) rfl (by decide +kernel) q_dc183 q_ck183
theorem q_pc184 : Cond.code (q_y 184) (q_b 184) (q_ml 184) (q_rt 184) ∈ q_w0 := List.mem_filter.mpr ⟨List.mem_of_getElem? (i := 1120) (by decide +kernel), by decide +kernel⟩
theorem q_dc184 : ∀ e ∈ q_cd184, decode (q_b 184) e.1 = .ok (e.2.2.1, e.2.1) := by decide +kernel
theorem q_ck184 : q_cd184.all (fun e => q_chk 184 e.1 e.2.1 e.2.2.1 e.2.2.2.1 e.2.2.2.2.1 e.2.2.2.2.2) = true := by decide +kernel
theorem q_mok184 : q_mok 184 := q_mk (by decide) q_pc184 (by decide +kernel) (by decide +kernel) rfl (by decide +kernel) q_dc184 q_ck184
theorem q_pc185 : Cond.code (q_y 185) (q_b 185) (q_ml 185) (q_rt 185) ∈ q_w0 := List.mem_filter.mpr ⟨List.mem_of_getElem? (i := 1652) (by decide +kernel), by decide +kernel⟩
theorem q_dc185 : ∀ e ∈ q_cd185, decode (q_b 185) e.1 = .ok (e.2.2.1, e.2.1) := by decide +kernel
theorem q_ck185 : q_cd185.all (fun e => q_chk 185 e.1 e.2.1 e.2.2.1 e.2.2.2.1 e.2.2.2.2.1 e.2.2.2.2.2) = true := by decide +kernel
theorem q_mok185 : q_mok 185 := q_mk (by decide) q_pc185 (by decide +kernel) (by decide +kernel) rfl (by decide +kernel) q_dc185 q_ck185
theorem q_pc186 : Cond.code (q_y 186) (q_b 186) (q_ml 186) (q_rt 186) ∈ q_w0 := List.mem_filter.mpr ⟨List.mem_of_getElem? (i := 1157) (by decide +kernel), by decide +kernel⟩
theorem q_dc186 : ∀ e ∈ q_cd186, decode (q_b 186) e.1 = .ok (e.2.2.1, e.2.1) := by decide +kernel
theorem q_ck186 : q_cd186.all (fun e => q_chk 186 e.1 e.2.1 e.2.2.1 e.2.2.2.1 e.2.2.2.2.1 e.2.2.2.2.2) = true := by decide +kernel
theorem q_mok186 : q_mok 186 := q_mk (by decide) q_pc186 (by decide +kernel) (by decide +kernel) rfl (by decide +kernel) q_dc186 q_ck186
theorem q_pc187 : Cond.code (q_y 187) (q_b 187) (q_ml 187) (q_rt 187) ∈ q_w0 := List.mem_filter.mpr ⟨List.mem_of_getElem? (i := 1872) (by decide +kernel), by decide +kernel⟩
theorem q_dc187 : ∀ e ∈ q_cd187, decode (q_b 187) e.1 = .ok (e.2.2.1, e.2.1) := by decide +kernel
theorem q_ck187 : q_cd187.all (fun e => q_chk 187 e.1 e.2.1 e.2.2.1 e.2.2.2.1 e.2.2.2.2.1 e.2.2.2.2.2) = true := by decide +kernel
theorem q_mok187 : q_mok 187 := q_mk (by decide) q_pc187 (by decide +kernel) (by decide +kernel) rfl (by decide +kernel) q_dc187 q_ck187
theorem q_pc188 : Cond.code (q_y 188) (q_b 188) (q_ml 188) (q_rt 188) ∈ q_w0 := List.mem_filter.mpr ⟨List.mem_of_getElem? (i := 1182) (by decide +kernel), by decide +kernel⟩
theorem q_dc188 : ∀ e ∈ q_cd188, decode (q_b 188) e.1 = .ok (e.2.2.1, e.2.1) := by decide +kernel
theorem q_ck188 : q_cd188.all (fun e => q_chk 188 e.1 e.2.1 e.2.2.1 e.2.2.2.1 e.2.2.2.2.1 e.2.2.2.2.2) = true := by decide +kernel
theorem q_mok188 : q_mok 188 := q_mk (by decide) q_pc188 (by decide +kernel) (by decide +kernel) rfl (by decide +kernel) q_dc188 q_ck188
theorem q_pc189 : Cond.code (q_y 189) (q_b 189) (q_ml 189) (q_rt 189) ∈ q_w0 := List.mem_filter.mpr ⟨List.mem_of_getElem? (i := 1186) (by decide +kernel), by decide +kernel⟩
theorem q_dc189 : ∀ e ∈ q_cd189, decode (q_b 189) e.1 = .ok (e.2.2.1, e.2.1) := by decide +kernel
theorem q_ck189 : q_cd189.all (fun e => q_chk 189 e.1 e.2.1 e.2.2.1 e.2.2.2.1 e.2.2.2.2.1 e.2.2.2.2.2) = true := by decide +kernel
theorem q_mok189 : q_mok 189 := q_mk (by decide) q_pc189 (by decide +kernel) (by decide +kernel) rfl (by decide +kernel) q_dc189 q_ck189
theorem q_pc190 : Cond.code (q_y 190) (q_b 190) (q_ml 190) (q_rt 190) ∈ q_w0 := List.mem_filter.mpr ⟨List.mem_of_getElem? (i := 1892) (by decide +kernel), by decide +kernel⟩
theorem q_dc190 : ∀ e ∈ q_cd190, decode (q_b 190) e.1 = .ok (e.2.2.1, e.2.1) := by decide +kernel
theorem q_ck190 : q_cd190.all (fun e => q_chk 190 e.1 e.2.1 e.2.2.1 e.2.2.2.1 e.2.2.2.2.1 e.2.2.2.2.2) = true := by decide +kernel
theorem q_mok190 : q_mok 190 := q_mk (by decide) q_pc190 (by decide +kernel) (by decide +kernel) rfl (by decide +kernel) q_dc190 q_ck190
theorem q_pc191 : Cond.code (q_y 191) (q_b 191) (q_ml 191) (q_rt 191) ∈ q_w0 := List.mem_filter.mpr ⟨List.mem_of_getElem? (i := 1004) (by decide +kernel), by decide +kernel⟩
theorem q_dc191 : ∀ e ∈ q_cd191, decode (q_b 191) e.1 = .ok (e.2.2.1, e.2.1) := by decide +kernel
theorem q_ck191 : q_cd191.all (fun e => q_chk 191 e.1 e.2.1 e.2.2.1 e.2.2.2.1 e.2.2.2.2.1 e.2.2.2.2.2) = true := by decide +kernel
theorem q_mok191 : q_mok 191 := q_mk (by decide) q_pc191 (by decide +kernel) (by decide +kernel) rfl (by decide +kernel) q_dc191 q_ck191
theorem q_ok0 : ∀ i, i < 0 → q_mok i := lt_0
theorem q_ok16 : ∀ i, i < 16 → q_mok i := (lt_s (i := 15) (lt_s (i := 14) (lt_s (i := 13) (lt_s (i := 12) (lt_s (i := 11) (lt_s (i := 10) (lt_s (i := 9) (lt_s (i := 8) (lt_s (i := 7) (lt_s (i := 6) (lt_s (i := 5) (lt_s (i := 4) (lt_s (i := 3) (lt_s (i := 2) (lt_s (i := 1) (lt_s (i := 0) q_ok0 q_mok0) q_mok1) q_mok2) q_mok3) q_mok4) q_mok5) q_mok6) q_mok7) q_mok8) q_mok9) q_mok10) q_mok11) q_mok12) q_mok13) q_mok14) q_mok15)
theorem q_ok32 : ∀ i, i < 32 → q_mok i := (lt_s (i := 31) (lt_s (i := 30) (lt_s (i := 29) (lt_s (i := 28) (lt_s (i := 27) (lt_s (i := 26) (lt_s (i := 25) (lt_s (i := 24) (lt_s (i := 23) (lt_s (i := 22) (lt_s (i := 21) (lt_s (i := 20) (lt_s (i := 19) (lt_s (i := 18) (lt_s (i := 17) (lt_s (i := 16) q_ok16 q_mok16) q_mok17) q_mok18) q_mok19) q_mok20) q_mok21) q_mok22) q_mok23) q_mok24) q_mok25) q_mok26) q_mok27) q_mok28) q_mok29) q_mok30) q_mok31)
theorem q_ok48 : ∀ i, i < 48 → q_mok i := (lt_s (i := 47) (lt_s (i := 46) (lt_s (i := 45) (lt_s (i := 44) (lt_s (i := 43) (lt_s (i := 42) (lt_s (i := 41) (lt_s (i := 40) (lt_s (i := 39) (lt_s (i := 38) (lt_s (i := 37) (lt_s (i := 36) (lt_s (i := 35) (lt_s (i := 34) (lt_s (i := 33) (lt_s (i := 32) q_ok32 q_mok32) q_mok33) q_mok34) q_mok35) q_mok36) q_mok37) q_mok38) q_mok39) q_mok40) q_mok41) q_mok42) q_mok43) q_mok44) q_mok45) q_mok46) q_mok47)
theorem q_ok64 : ∀ i, i < 64 → q_mok i := (lt_s (i := 63) (lt_s (i := 62) (lt_s (i := 61) (lt_s (i := 60) (lt_s (i := 59) (lt_s (i := 58) (lt_s (i := 57) (lt_s (i := 56) (lt_s (i := 55) (lt_s (i := 54) (lt_s (i := 53) (lt_s (i := 52) (lt_s (i := 51) (lt_s (i := 50) (lt_s (i := 49) (lt_s (i := 48) q_ok48 q_mok48) q_mok49) q_mok50) q_mok51) q_mok52) q_mok53) q_mok54) q_mok55) q_mok56) q_mok57) q_mok58) q_mok59) q_mok60) q_mok61) q_mok62) q_mok63)
theorem q_ok80 : ∀ i, i < 80 → q_mok i := (lt_s (i := 79) (lt_s (i := 78) (lt_s (i := 77) (lt_s (i := 76) (lt_s (i := 75) (lt_s (i := 74) (lt_s (i := 73) (lt_s (i := 72) (lt_s (i := 71) (lt_s (i := 70) (lt_s (i := 69) (lt_s (i := 68) (lt_s (i := 67) (lt_s (i := 66) (lt_s (i := 65) (lt_s (i := 64) q_ok64 q_mok64) q_mok65) q_mok66) q_mok67) q_mok68) q_mok69) q_mok70) q_mok71) q_mok72) q_mok73) q_mok74) q_mok75) q_mok76) q_mok77) q_mok78) q_mok79)
theorem q_ok96 : ∀ i, i < 96 → q_mok i := (lt_s (i := 95) (lt_s (i := 94) (lt_s (i := 93) (lt_s (i := 92) (lt_s (i := 91) (lt_s (i := 90) (lt_s (i := 89) (lt_s (i := 88) (lt_s (i := 87) (lt_s (i := 86) (lt_s (i := 85) (lt_s (i := 84) (lt_s (i := 83) (lt_s (i := 82) (lt_s (i := 81) (lt_s (i := 80) q_ok80 q_mok80) q_mok81) q_mok82) q_mok83) q_mok84) q_mok85) q_mok86) q_mok87) q_mok88) q_mok89) q_mok90) q_mok91) q_mok92) q_mok93) q_mok94) q_mok95)
theorem q_ok112 : ∀ i, i < 112 → q_mok i := (lt_s (i := 111) (lt_s (i := 110) (lt_s (i := 109) (lt_s (i := 108) (lt_s (i := 107) (lt_s (i := 106) (lt_s (i := 105) (lt_s (i := 104) (lt_s (i := 103) (lt_s (i := 102) (lt_s (i := 101) (lt_s (i := 100) (lt_s (i := 99) (lt_s (i := 98) (lt_s (i := 97) (lt_s (i := 96) q_ok96 q_mok96) q_mok97) q_mok98) q_mok99) q_mok100) q_mok101) q_mok102) q_mok103) q_mok104) q_mok105) q_mok106) q_mok107) q_mok108) q_mok109) q_mok110) q_mok111)
theorem q_ok128 : ∀ i, i < 128 → q_mok i := (lt_s (i := 127) (lt_s (i := 126) (lt_s (i := 125) (lt_s (i := 124) (lt_s (i := 123) (lt_s (i := 122) (lt_s (i := 121) (lt_s (i := 120) (lt_s (i := 119) (lt_s (i := 118) (lt_s (i := 117) (lt_s (i := 116) (lt_s (i := 115) (lt_s (i := 114) (lt_s (i := 113) (lt_s (i := 112) q_ok112 q_mok112) q_mok113) q_mok114) q_mok115) q_mok116) q_mok117) q_mok118) q_mok119) q_mok120) q_mok121) q_mok122) q_mok123) q_mok124) q_mok125) q_mok126) q_mok127)
theorem q_ok144 : ∀ i, i < 144 → q_mok i := (lt_s (i := 143) (lt_s (i := 142) (lt_s (i := 141) (lt_s (i := 140) (lt_s (i := 139) (lt_s (i := 138) (lt_s (i := 137) (lt_s (i := 136) (lt_s (i := 135) (lt_s (i := 134) (lt_s (i := 133) (lt_s (i := 132) (lt_s (i := 131) (lt_s (i := 130) (lt_s (i := 129) (lt_s (i := 128) q_ok128 q_mok128) q_mok129) q_mok130) q_mok131) q_mok132) q_mok133) q_mok134) q_mok135) q_mok136) q_mok137) q_mok138) q_mok139) q_mok140) q_mok141) q_mok142) q_mok143)
theorem q_ok160 : ∀ i, i < 160 → q_mok i := (lt_s (i := 159) (lt_s (i := 158) (lt_s (i := 157) (lt_s (i := 156) (lt_s (i := 155) (lt_s (i := 154) (lt_s (i := 153) (lt_s (i := 152) (lt_s (i := 151) (lt_s (i := 150) (lt_s (i := 149) (lt_s (i := 148) (lt_s (i := 147) (lt_s (i := 146) (lt_s (i := 145) (lt_s (i := 144) q_ok144 q_mok144) q_mok145) q_mok146) q_mok147) q_mok148) q_mok149) q_mok150) q_mok151) q_mok152) q_mok153) q_mok154) q_mok155) q_mok156) q_mok157) q_mok158) q_mok159)
theorem q_ok176 : ∀ i, i < 176 → q_mok i := (lt_s (i := 175) (lt_s (i := 174) (lt_s (i := 173) (lt_s (i := 172) (lt_s (i := 171) (lt_s (i := 170) (lt_s (i := 169) (lt_s (i := 168) (lt_s (i := 167) (lt_s (i := 166) (lt_s (i := 165) (lt_s (i := 164) (lt_s (i := 163) (lt_s (i := 162) (lt_s (i := 161) (lt_s (i := 160) q_ok160 q_mok160) q_mok161) q_mok162) q_mok163) q_mok164) q_mok165) q_mok166) q_mok167) q_mok168) q_mok169) q_mok170) q_mok171) q_mok172) q_mok173) q_mok174) q_mok175)
theorem q_ok191 : ∀ i, i < 191 → q_mok i := (lt_s (i := 190) (lt_s (i := 189) (lt_s (i := 188) (lt_s (i := 187) (lt_s (i := 186) (lt_s (i := 185) (lt_s (i := 184) (lt_s (i := 183) (lt_s (i := 182) (lt_s (i := 181) (lt_s (i := 180) (lt_s (i := 179) (lt_s (i := 178) (lt_s (i := 177) (lt_s (i := 176) q_ok176 q_mok176) q_mok177) q_mok178) q_mok179) q_mok180) q_mok181) q_mok182) q_mok183) q_mok184) q_mok185) q_mok186) q_mok187) q_mok188) q_mok189) q_mok190)
theorem q_ok192 : ∀ i, i < 192 → q_mok i := (lt_s (i := 191) q_ok191 q_mok191)
theorem q_okm : ∀ i, i < q_nM → q_mok i := q_ok192
