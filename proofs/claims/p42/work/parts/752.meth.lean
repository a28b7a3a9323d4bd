theorem q_pc70 : Cond.code (q_y 70) (q_b 70) (q_ml 70) (q_rt 70) ∈ q_w0 := List.mem_filter.mpr ⟨List.mem_of_getElem? (i := 1586) (by decide +kernel), by decide +kernel⟩
theorem q_dc70 : ∀ e ∈ q_cd70, decode (q_b 70) e.1 = .ok (e.2.2.1, e.2.1) := by decide +kernel
theorem q_ck70 : q_cd70.all (fun e => q_chk 70 e.1 e.2.1 e.2.2.1 e.2.2.2.1 e.2.2.2.2.1 e.2.2.2.2.2) = true := by decide +kernel
theorem q_mok70 : q_mok 70 := q_mk (by decide) q_pc70 (by decide +kernel) (by decide +kernel) rfl (by decide +kernel) q_dc70 q_ck70
theorem q_pc71 : Cond.code (q_y 71) (q_b 71) (q_ml 71) (q_rt 71) ∈ q_w0 := List.mem_filter.mpr ⟨List.mem_of_getElem? (i := 1787) (by decide +kernel), by decide +kernel⟩
theorem q_dc71 : ∀ e ∈ q_cd71, decode (q_b 71) e.1 = .ok (e.2.2.1, e.2.1) := by decide +kernel
theorem q_ck71 : q_cd71.all (fun e => q_chk 71 e.1 e.2.1 e.2.2.1 e.2.2.2.1 e.2.2.2.2.1 e.2.2.2.2.2) = true := by decide +kernel
theorem q_mok71 : q_mok 71 := q_mk (by decide) q_pc71 (by decide +kernel) (by decide +kernel) rfl (by decide +kernel) q_dc71 q_ck71
theorem q_pc72 : Cond.code (q_y 72) (q_b 72) (q_ml 72) (q_rt 72) ∈ q_w0 := List.mem_filter.mpr ⟨List.mem_of_getElem? (i := 1855) (by decide +kernel), by decide +kernel⟩
theorem q_dc72 : ∀ e ∈ q_cd72, decode (q_b 72) e.1 = .ok (e.2.2.1, e.2.1) := by decide +kernel
theorem q_ck72 : q_cd72.all (fun e => q_chk 72 e.1 e.2.1 e.2.2.1 e.2.2.2.1 e.2.2.2.2.1 e.2.2.2.2.2) = true := by decide +kernel
theorem q_mok72 : q_mok 72 := q_mk (by decide) q_pc72 (by decide +kernel) (by decide +kernel) rfl (by decide +kernel) q_dc72 q_ck72
theorem q_pc73 : Cond.code (q_y 73) (q_b 73) (q_ml 73) (q_rt 73) ∈ q_w0 := List.mem_filter.mpr ⟨List.mem_of_getElem? (i := 1081) (by decide +kernel), by decide +kernel⟩
theorem q_dc73 : ∀ e ∈ q_cd73, decode (q_b 73) e.1 = .ok (e.2.2.1, e.2.1) := by decide +kernel
theorem q_ck73 : q_cd73.all (fun e => q_chk 73 e.1 e.2.1 e.2.2.1 e.2.2.2.1 e.2.2.2.2.1 e.2.2.2.2.2) = true := by decide +kernel
theorem q_mok73 : q_mok 73 := q_mk (by decide) q_pc73 (by decide +kernel) (by decide +kernel) rfl (by decide +kernel) q_dc73 q_ck73
theorem q_pc74 : Cond.code (q_y 74) (q_b 74) (q_ml 74) (q_rt 74) ∈ q_w0 := List.mem_filter.mpr ⟨List.mem_of_getElem? (i := 1831) (by decide +kernel), by decide +kernel⟩
theorem q_dc74 : ∀ e ∈ q_cd74, decode (q_b 74) e.1 = .ok (e.2.2.1, e.2.1) := by decide +kernel
theorem q_ck74 : q_cd74.all (fun e => q_chk 74 e.1 e.2.1 e.2.2.1 e.2.2.2.1 e.2.2.2.2.1 e.2.2.2.2.2) = true := by decide +kernel
theorem q_mok74 : q_mok 74 := q_mk (by decide) q_pc74 (by decide +kernel) (by decide +kernel) rfl (by decide +kernel) q_dc74 q_ck74
theorem q_pc75 : Cond.code (q_y 75) (q_b 75) (q_ml 75) (q_rt 75) ∈ q_w0 := List.mem_filter.mpr ⟨List.mem_of_getElem? (i := 1053) (by decide +kernel), by decide +kernel⟩
theorem q_dc75 : ∀ e ∈ q_cd75, decode (q_b 75) e.1 = .ok (e.2.2.1, e.2.1) := by decide +kernel
theorem q_ck75 : q_cd75.all (fun e => q_chk 75 e.1 e.2.1 e.2.2.1 e.2.2.2.1 e.2.2.2.2.1 e.2.2.2.2.2) = true := by decide +kernel
theorem q_mok75 : q_mok 75 := q_mk (by decide) q_pc75 (by decide +kernel) (by decide +kernel) rfl (by decide +kernel) q_dc75 q_ck75
theorem q_pc76 : Cond.code (q_y 76) (q_b 76) (q_ml 76) (q_rt 76) ∈ q_w0 := List.mem_filter.mpr ⟨List.mem_of_getElem? (i := 1811) (by decide +kernel), by decide +kernel⟩
theorem q_dc76 : ∀ e ∈ q_cd76, decode (q_b 76) e.1 = .ok (e.2.2.1, e.2.1) := by decide +kernel
theorem q_ck76 : q_cd76.all (fun e => q_chk 76 e.1 e.2.1 e.2.2.1 e.2.2.2.1 e.2.2.2.2.1 e.2.2.2.2.2) = true := by decide +kernel
theorem q_mok76 : q_mok 76 := q_mk (by decide) q_pc76 (by decide +kernel) (by decide +kernel) rfl (by decide +kernel) q_dc76 q_ck76
theorem q_pc77 : Cond.code (q_y 77) (q_b 77) (q_ml 77) (q_rt 77) ∈ q_w0 := List.mem_filter.mpr ⟨List.mem_of_getElem? (i := 1161) (by decide +kernel), by decide +kernel⟩
theorem q_dc77 : ∀ e ∈ q_cd77, decode (q_b 77) e.1 = .ok (e.2.2.1, e.2.1) := by decide +kernel
theorem q_ck77 : q_cd77.all (fun e => q_chk 77 e.1 e.2.1 e.2.2.1 e.2.2.2.1 e.2.2.2.2.1 e.2.2.2.2.2) = true := by decide +kernel
theorem q_mok77 : q_mok 77 := q_mk (by decide) q_pc77 (by decide +kernel) (by decide +kernel) rfl (by decide +kernel) q_dc77 q_ck77
theorem q_pc78 : Cond.code (q_y 78) (q_b 78) (q_ml 78) (q_rt 78) ∈ q_w0 := List.mem_filter.mpr ⟨List.mem_of_getElem? (i := 1876) (by decide +kernel), by decide +kernel⟩
theorem q_dc78 : ∀ e ∈ q_cd78, decode (q_b 78) e.1 = .ok (e.2.2.1, e.2.1) := by decide +kernel
theorem q_ck78 : q_cd78.all (fun e => q_chk 78 e.1 e.2.1 e.2.2.1 e.2.2.2.1 e.2.2.2.2.1 e.2.2.2.2.2) = true := by decide +kernel
theorem q_mok78 : q_mok 78 := q_mk (by decide) q_pc78 (by decide +kernel) (by decide +kernel) rfl (by decide +kernel) q_dc78 q_ck78
theorem q_pc79 : Cond.code (q_y 79) (q_b 79) (q_ml 79) (q_rt 79) ∈ q_w0 := List.mem_filter.mpr ⟨List.mem_of_getElem? (i := 1884) (by decide +kernel), by decide +kernel⟩
theorem q_dc79 : ∀ e ∈ q_cd79, decode (q_b 79) e.1 = .ok (e.2.2.1, e.2.1) := by decide +kernel
theorem q_ck79 : q_cd79.all (fun e => q_chk 79 e.1 e.2.1 e.2.2.1 e.2.2.2.1 e.2.2.2.2.1 e.2.2.2.2.2) = true := by decide +kernel
theorem q_mok79 : q_mok 79 := q_mk (by decide) q_pc79 (by decide +kernel) (by decide +kernel) rfl (by decide +kernel) q_dc79 q_ck79
theorem q_pc80 : Cond.code (q_y 80) (q_b 80) (q_ml 80) (q_rt 80) ∈ q_w0 := List.mem_filter.mpr ⟨List.mem_of_getElem? (i := 485) (by decide +kernel), by decide +kernel⟩
theorem q_dc80 : ∀ e ∈ q_cd80, decode (q_b 80) e.1 = .ok (e.2.2.1, e.2.1) := by decide +kernel
theorem q_ck80 : q_cd80.all (fun e => q_chk 80 e.1 e.2.1 e.2.2.1 e.2.2.2.1 e.2.2.2.2.1 e.2.2.2.2.2) = true := by decide +kernel
theorem q_mok80 : q_mok 80 := q_mk (by decide) q_pc80 (by decide +kernel) (by decide +kernel) rfl (by decide +kernel) q_dc80 q_ck80
theorem q_pc81 : Cond.code (q_y 81) (q_b 81) (q_ml 81) (q_rt 81) ∈ q_w0 := List.mem_filter.mpr ⟨List.mem_of_getElem? (i := 1235) (by decide +kernel), by decide +kernel⟩
theorem q_dc81 : ∀ e ∈ q_cd81, decode (q_b 81) e.1 = .ok (e.2.2.1, e.2.1) := by decide +kernel
theorem q_ck81 : q_cd81.all (fun e => q_chk 81 e.1 e.2.1 e.2.2.1 e.2.2.2.1 e.2.2.2.2.1 e.2.2.2.2.2) = true := by decide +kernel
theorem q_mok81 : q_mok 81 := q_mk (by decide) q_pc81 (by decide +kernel) (by decide +kernel) rfl (by decide +kernel) q_dc81 q_ck81
theorem q_pc82 : Cond.code (q_y 82) (q_b 82) (q_ml 82) (q_rt 82) ∈ q_w0 := List.mem_filter.mpr ⟨List.mem_of_getElem? (i := 1916) (by decide +kernel), by decide +kernel⟩
theorem q_dc82 : ∀ e ∈ q_cd82, decode (q_b 82) e.1 = .ok (e.2.2.1, e.2.1) := by decide +kernel
theorem q_ck82 : q_cd82.all (fun e => q_chk 82 e.1 e.2.1 e.2.2.1 e.2.2.2.1 e.2.2.2.2.1 e.2.2.2.2.2) = true := by decide +kernel
theorem q_mok82 : q_mok 82 := q_mk (by decide) q_pc82 (by decide +kernel) (by decide +kernel) rfl (by decide +kernel) q_dc82 q_ck82
theorem q_pc83 : Cond.code (q_y 83) (q_b 83) (q_ml 83) (q_rt 83) ∈ q_w0 := List.mem_filter.mpr ⟨List.mem_of_getElem? (i := 790) (by decide +kernel), by decide +kernel⟩
theorem q_dc83 : ∀ e ∈ q_cd83, decode (q_b 83) e.1 = .ok (e.2.2.1, e.2.1) := by decide +kernel
theorem q_ck83 : q_cd83.all (fun e => q_chk 83 e.1 e.2.1 e.2.2.1 e.2.2.2.1 e.2.2.2.2.1 e.2.2.2.2.2) = true := by decide +kernel
theorem q_mok83 : q_mok 83 := q_mk (by decide) q_pc83 (by decide +kernel) (by decide +kernel) rfl (by decide +kernel) q_dc83 q_ck83
theorem q_pc84 : Cond.code (q_y 84) (q_b 84) (q_ml 84) (q_rt 84) ∈ q_w0 := List.mem_filter.mpr ⟨List.mem_of_getElem? (i := 832) (by decide +kernel), by decide +kernel⟩
theorem q_dc84 : ∀ e ∈ q_cd84, decode (q_b 84) e.1 = .ok (e.2.2.1, e.2.1) := by decide +kernel
theorem q_ck84 : q_cd84.all (fun e => q_chk 84 e.1 e.2.1 e.2.2.1 e.2.2.2.1 e.2.2.2.2.1 e.2.2.2.2.2) = true := by decide +kernel
theorem q_mok84 : q_mok 84 := q_mk (by decide) q_pc84 (by decide +kernel) (by decide +kernel) rfl (by decide +kernel) q_dc84 q_ck84
theorem q_pc85 : Cond.code (q_y 85) (q_b 85) (q_ml 85) (q_rt 85) ∈ q_w0 := List.mem_filter.mpr ⟨List.mem_of_getElem? (i := 843) (by decide +kernel), by decide +kernel⟩
theorem q_dc85 : ∀ e ∈ q_cd85, decode (q_b 85) e.1 = .ok (e.2.2.1, e.2.1) := by decide +kernel
theorem q_ck85 : q_cd85.all (fun e => q_chk 85 e.1 e.2.1 e.2.2.1 e.2.2.2.1 e.2.2.2.2.1 e.2.2.2.2.2) = true := by decide +kernel
theorem q_mok85 : q_mok 85 := q_mk (by decide) q_pc85 (by decide +kernel) (by decide +kernel) rfl (by decide +kernel) q_dc85 q_ck85
theorem q_pc86 : Cond.code (q_y 86) (q_b 86) (q_ml 86) (q_rt 86) ∈ q_w0 := List.mem_filter.mpr ⟨List.mem_of_getElem? (i := 856) (by decide +kernel), by decide +kernel⟩
theorem q_dc86 : ∀ e ∈ q_cd86, decode (q_b 86) e.1 = .ok (e.2.2.1, e.2.1) := by decide +kernel
theorem q_ck86 : q_cd86.all (fun e => q_chk 86 e.1 e.2.1 e.2.2.1 e.2.2.2.1 e.2.2.2.2.1 e.2.2.2.2.2) = true := by decide +kernel
theorem q_mok86 : q_mok 86 := q_mk (by decide) q_pc86 (by decide +kernel) (by decide +kernel) rfl (by decide +kernel) q_dc86 q_ck86
theorem q_pc87 : Cond.code (q_y 87) (q_b 87) (q_ml 87) (q_rt 87) ∈ q_w0 := List.mem_filter.mpr ⟨List.mem_of_getElem? (i := 914) (by decide +kernel), by decide +kernel⟩
theorem q_dc87 : ∀ e ∈ q_cd87, decode (q_b 87) e.1 = .ok (e.2.2.1, e.2.1) := by decide +kernel
theorem q_ck87 : q_cd87.all (fun e => q_chk 87 e.1 e.2.1 e.2.2.1 e.2.2.2.1 e.2.2.2.2.1 e.2.2.2.2.2) = true := by decide +kernel
theorem q_mok87 : q_mok 87 := q_mk (by decide) q_pc87 (by decide +kernel) (by decide +kernel) rfl (by decide +kernel) q_dc87 q_ck87
theorem q_pc88 : Cond.code (q_y 88) (q_b 88) (q_ml 88) (q_rt 88) ∈ q_w0 := List.mem_filter.mpr ⟨List.mem_of_getElem? (i := 936) (by decide +kernel), by decide +kernel⟩
theorem q_dc88 : ∀ e ∈ q_cd88, decode (q_b 88) e.1 = .ok (e.2.2.1, e.2.1) := by decide +kernel
theorem q_ck88 : q_cd88.all (fun e => q_chk 88 e.1 e.2.1 e.2.2.1 e.2.2.2.1 e.2.2.2.2.1 e.2.2.2.2.2) = true := by decide +kernel
theorem q_mok88 : q_mok 88 := q_mk (by decide) q_pc88 (by decide +kernel) (by decide +kernel) rfl (by decide +kernel) q_dc88 q_ck88
theorem q_pc89 : Cond.code (q_y 89) (q_b 89) (q_ml 89) (q_rt 89) ∈ q_w0 := List.mem_filter.mpr ⟨List.mem_of_getElem? (i := 948) (by decide +kernel), by decide +kernel⟩
theorem q_dc89 : ∀ e ∈ q_cd89, decode (q_b 89) e.1 = .ok (e.2.2.1, e.2.1) := by decide +kernel
theorem q_ck89 : q_cd89.all (fun e => q_chk 89 e.1 e.2.1 e.2.2.1 e.2.2.2.1 e.2.2.2.2.1 e.2.2.2.2.2) = true := by decide +kernel
theorem q_mok89 : q_mok 89 := q_mk (by decide) q_pc89 (by decide +kernel) (by decide +kernel) rfl (by decide +kernel) q_dc89 q_ck89
theorem q_pc90 : Cond.code (q_y 90) (q_b 90) (q_ml 90) (q_rt 90) ∈ q_w0 := List.mem_filter.mpr ⟨List.mem_of_getElem? (i := 959) (by decide +kernel), by decide +kernel⟩
theorem q_dc90 : ∀ e ∈ q_cd90, decode (q_b 90) e.1 = .ok (e.2.2.1, e.2.1) := by decide +kernel
theorem q_ck90 : q_cd90.all (fun e => q_chk 90 e.1 e.2.1 e.2.2.1 e.2.2.2.1 e.2.2.2.2.1 e.2.2.2.2.2) = true := by decide +kernel
theorem q_mok90 : q_mok 90 := q_mk (by decide) q_pc90 (by decide +kernel) (by decide +kernel) rfl (by decide +kernel) q_dc90 q_ck90
theorem q_pc91 : Cond.code (q_y 91) (q_b 91) (q_ml 91) (q_rt 91) ∈ q_w0 := List.mem_filter.mpr ⟨List.mem_of_getElem? (i := 977) (by decide +kernel), by decide +kernel⟩
theorem q_dc91 : ∀ e ∈ q_cd91, decode (q_b 91) e.1 = .ok (e.2.2.1, e.2.1) := by decide +kernel
theorem q_ck91 : q_cd91.all (fun e => q_chk 91 e.1 e.2.1 e.2.2.1 e.2.2.2.1 e.2.2.2.2.1 e.2.2.2.2.2) = true := by decide +kernel
theorem q_mok91 : q_mok 91 := q_mk (by decide) q_pc91 (by decide +kernel) (by decide +kernel) rfl (by decide +kernel) q_dc91 q_ck91
theorem q_pc92 : Cond.code (q_y 92) (q_b 92) (q_ml 92) (q_rt 92) ∈ q_w0 := List.mem_filter.mpr ⟨List.mem_of_getElem? (i := 984) (by decide +kernel), by decide +kernel⟩
theorem q_dc92 : ∀ e ∈ q_cd92, decode (q_b 92) e.1 = .ok (e.2.2.1, e.2.1) := by decide +kernel
theorem q_ck92 : q_cd92.all (fun e => q_chk 92 e.1 e.2.1 e.2.2.1 e.2.2.2.1 e.2.2.2.2.1 e.2.2.2.2.2) = true := by decide +kernel
theorem q_mok92 : q_mok 92 := q_mk (by decide) q_pc92 (by decide +kernel) (by decide +kernel) rfl (by decide +kernel) q_dc92 q_ck92
theorem q_pc93 : Cond.code (q_y 93) (q_b 93) (q_ml 93) (q_rt 93) ∈ q_w0 := List.mem_filter.mpr ⟨List.mem_of_getElem? (i := 1008) (by decide +kernel), by decide +kernel⟩
theorem q_dc93 : ∀ e ∈ q_cd93, decode (q_b 93) e.1 = .ok (e.2.2.1, e.2.1) := by decide +kernel
theorem q_ck93 : q_cd93.all (fun e => q_chk 93 e.1 e.2.1 e.2.2.1 e.2.2.2.1 e.2.2.2.2.1 e.2.2.2.2.2) = true := by decide +kernel
theorem q_mok93 : q_mok 93 := q_mk (by decide) q_pc93 (by decide +kernel) (by decide +kernel) rfl (by decide +kernel) q_dc93 q_ck93
theorem q_pc94 : Cond.code (q_y 94) (q_b 94) (q_ml 94) (q_rt 94) ∈ q_w0 := List.mem_filter.mpr ⟨List.mem_of_getElem? (i := 1012) (by decide +kernel), by decide +kernel⟩
theorem q_dc94 : ∀ e ∈ q_cd94, decode (q_b 94) e.1 = .ok (e.2.2.1, e.2.1) := by decide +kernel
theorem q_ck94 : q_cd94.all (fun e => q_chk 94 e.1 e.2.1 e.2.2.1 e.2.2.2.1 e.2.2.2.2.1 e.2.2.2.2.2) = true := by decide +kernel
theorem q_mok94 : q_mok 94 := q_mk (by decide) q_pc94 (by decide +kernel) (by decide +kernel) rfl (by decide +kernel) q_dc94 q_ck94
theorem q_pc95 : Cond.code (q_y 95) (q_b 95) (q_ml 95) (q_rt 95) ∈ q_w0 := List.mem_filter.mpr ⟨List.mem_of_getElem? (i := 1025) (by decide +kernel), by decide +kernel⟩
theorem q_dc95 : ∀ e ∈ q_cd95, decode (q_b 95) e.1 = .ok (e.2.2.1, e.2.1) := by decide +kernel
theorem q_ck95 : q_cd95.all (fun e => q_chk 95 e.1 e.2.1 e.2.2.1 e.2.2.2.1 e.2.2.2.2.1 e.2.2.2.2.2) = true := by decide +kernel
theorem q_mok95 : q_mok 95 := q_mk (by decide) q_pc95 (by decide +kernel) (by decide +kernel) rfl (by decide +kernel) q_dc95 q_ck95
theorem q_pc96 : Cond.code (q_y 96) (q_b 96) (q_ml 96) (q_rt 96) ∈ q_w0 := List.mem_filter.mpr ⟨List.mem_of_getElem? (i := 1029) (by decide +kernel), by decide +kernel⟩
theorem q_dc96 : ∀ e ∈ q_cd96, decode (q_b 96) e.1 = .ok (e.2.2.1, e.2.1) := by decide +kernel
theorem q_ck96 : q_cd96.all (fun e => q_chk 96 e.1 e.2.1 e.2.2.1 e.2.2.2.1 e.2.2.2.2.1 e.2.2.2.2.2) = true := by decide +kernel
theorem q_mok96 : q_mok 96 := q_mk (by decide) q_pc96 (by decide +kernel) (by decide +kernel) rfl (by decide +kernel) q_dc96 q_ck96
theorem q_pc97 : Cond.code (q_y 97) (q_b 97) (q_ml 97) (q_rt 97) ∈ q_w0 := List.mem_filter.mpr ⟨List.mem_of_getElem? (i := 1823) (by decide +kernel), by decide +kernel⟩
theorem q_dc97 : ∀ e ∈ q_cd97, decode (q_b 97) e.1 = .ok (e.2.2.1, e.2.1) := by decide +kernel
theorem q_ck97 : q_cd97.all (fun e => q_chk 97 e.1 e.2.1 e.2.2.1 e.2.2.2.1 e.2.2.2.2.1 e.2.2.2.2.2) = true := by decide +kernel
theorem q_mok97 : q_mok 97 := q_mk (by decide) q_pc97 (by decide +kernel) (by decide +kernel) rfl (by decide +kernel) q_dc97 q_ck97
theorem q_pc98 : Cond.code (q_y 98) (q_b 98) (q_ml 98) (q_rt 98) ∈ q_w0 := List.mem_filter.mpr ⟨List.mem_of_getElem? (i := 1092) (by decide +kernel), by decide +kernel⟩
theorem q_dc98 : ∀ e ∈ q_cd98, decode (q_b 98) e.1 = .ok (e.2.2.1, e.2.1) := by decide +kernel
theorem q_ck98 : q_cd98.all (fun e => q_chk 98 e.1 e.2.1 e.2.2.1 e.2.2.2.1 e.2.2.2.2.1 e.2.2.2.2.2) = true := by decide +kernel
theorem q_mok98 : q_mok 98 := q_mk (by decide) q_pc98 (by decide +kernel) (by decide +kernel) rfl (by decide +kernel) q_dc98 q_ck98
theorem q_pc99 : Cond.code (q_y 99) (q_b 99) (q_ml 99) (q_rt 99) ∈ q_w0 := List.mem_filter.mpr ⟨List.mem_of_getElem? (i := 1124) (by decide +kernel), by decide +kernel⟩
theorem q_dc99 : ∀ e ∈ q_cd99, decode (q_b 99) e.1 = .ok (e.2.2.1, e.2.1) := by decide +kernel
theorem q_ck99 : q_cd99.all (fun e => q_chk 99 e.1 e.2.1 e.2.2.1 e.2.2.2.1 e.2.2.2.2.1 e.2.2.2.2.2) = true := by decide +kernel
theorem q_mok99 : q_mok 99 := q_mk (by decide) q_pc99 (by decide +kernel) (by decide +kernel) rfl (by decide +kernel) q_dc99 q_ck99
theorem q_pc100 : Cond.code (q_y 100) (q_b 100) (q_ml 100) (q_rt 100) ∈ q_w0 := List.mem_filter.mpr ⟨List.mem_of_getElem? (i := 1144) (by decide +kernel), by decide +kernel⟩
theorem q_dc100 : ∀ e ∈ q_cd100, decode (q_b 100) e.1 = .ok (e.2.2.1, e.2.1) := by decide +kernel
theorem q_ck100 : q_cd100.all (fun e => q_chk 100 e.1 e.2.1 e.2.2.1 e.2.2.2.1 e.2.2.2.2.1 e.2.2.2.2.2) = true := by decide +kernel
theorem q_mok100 : q_mok 100 := q_mk (by decide) q_pc100 (by decide +kernel) (by decide +kernel) rfl (by decide +kernel) q_dc100 q_ck100
theorem q_pc101 : Cond.code (q_y 101) (q_b 101) (q_ml 101) (q_rt 101) ∈ q_w0 := List.mem_filter.mpr ⟨List.mem_of_getElem? (i := 1148) (by decide +kernel), by decide +kernel⟩
theorem q_dc101 : ∀ e ∈ q_cd101, decode (q_b 101) e.1 = .ok (e.2.2.1, e.2.1) := by decide +kernel
theorem q_ck101 : q_cd101.all (fun e => q_chk 101 e.1 e.2.1 e.2.2.1 e.2.2.2.1 e.2.2.2.2.1 e.2.2.2.2.2) = true := by decide +kernel
theorem q_mok101 : q_mok 101 := q_mk (by decide) q_pc101 (by decide +kernel) (by decide +kernel) rfl (by decide +kernel) q_dc101 q_ck101
theorem q_pc102 : Cond.code (q_y 102) (q_b 102) (q_ml 102) (q_rt 102) ∈ q_w0 := List.mem_filter.mpr ⟨List.mem_of_getElem? (i := 1057) (by decide +kernel), by decide +kernel⟩
theorem q_dc102 : ∀ e ∈ q_cd102, decode (q_b 102) e.1 = .ok (e.2.2.1, e.2.1) := by decide +kernel
theorem q_ck102 : q_cd102.all (fun e => q_chk 102 e.1 e.2.1 e.2.2.1 e.2.2.2.1 e.2.2.2.2.1 e.2.2.2.2.2) = true := by decide +kernel
theorem q_mok102 : q_mok 102 := q_mk (by decide) q_pc102 (by decide +kernel) (by decide +kernel) rfl (by decide +kernel) q_dc102 q_ck102
theorem q_pc103 : Cond.code (q_y 103) (q_b 103) (q_ml 103) (q_rt 103) ∈ q_w0 := List.mem_filter.mpr ⟨List.mem_of_getElem? (i := 1152) (by decide +kernel), by decide +kernel⟩
theorem q_dc103 : ∀ e ∈ q_cd103, decode (q_b 103) e.1 = .ok (e.2.2.1, e.2.1) := by decide +kernel
theorem q_ck103 : q_cd103.all (fun e => q_chk 103 e.1 e.2.1 e.2.2.1 e.2.2.2.1 e.2.2.2.2.1 e.2.2.2.2.2) = true := by decide +kernel
theorem q_mok103 : q_mok 103 := q_mk (by decide) q_pc103 (by decide +kernel) (by decide +kernel) rfl (by decide +kernel) q_dc103 q_ck103
theorem q_pc104 : Cond.code (q_y 104) (q_b 104) (q_ml 104) (q_rt 104) ∈ q_w0 := List.mem_filter.mpr ⟨List.mem_of_getElem? (i := 1867) (by decide +kernel), by decide +kernel⟩
theorem q_dc104 : ∀ e ∈ q_cd104, decode (q_b 104) e.1 = .ok (e.2.2.1, e.2.1) := by decide +kernel
theorem q_ck104 : q_cd104.all (fun e => q_chk 104 e.1 e.2.1 e.2.2.1 e.2.2.2.1 e.2.2.2.2.1 e.2.2.2.2.2) = true := by decide +kernel
theorem q_mok104 : q_mok 104 := q_mk (by decide) q_pc104 (by decide +kernel) (by decide +kernel) rfl (by decide +kernel) q_dc104 q_ck104
theorem q_pc105 : Cond.code (q_y 105) (q_b 105) (q_ml 105) (q_rt 105) ∈ q_w0 := List.mem_filter.mpr ⟨List.mem_of_getElem? (i := 1112) (by decide +kernel), by decide +kernel⟩
theorem q_dc105 : ∀ e ∈ q_cd105, decode (q_b 105) e.1 = .ok (e.2.2.1, e.2.1) := by decide +kernel
theorem q_ck105 : q_cd105.all (fun e => q_chk 105 e.1 e.2.1 e.2.2.1 e.2.2.2.1 e.2.2.2.2.1 e.2.2.2.2.2) = true := by decide +kernel
theorem q_mok105 : q_mok 105 := q_mk (by decide) q_pc105 (by decide +kernel) (by decide +kernel) rfl (by decide +kernel) q_dc105 q_ck105
theorem q_pc106 : Cond.code (q_y 106) (q_b 106) (q_ml 106) (q_rt 106) ∈ q_w0 := List.mem_filter.mpr ⟨List.mem_of_getElem? (i := 1807) (by decide +kernel), by decide +kernel⟩
theorem q_dc106 : ∀ e ∈ q_cd106, decode (q_b 106) e.1 = .ok (e.2.2.1, e.2.1) := by decide +kernel
theorem q_ck106 : q_cd106.all (fun e => q_chk 106 e.1 e.2.1 e.2.2.1 e.2.2.2.1 e.2.2.2.2.1 e.2.2.2.2.2) = true := by decide +kernel
theorem q_mok106 : q_mok 106 := q_mk (by decide) q_pc106 (by decide +kernel) (by decide +kernel) rfl (by decide +kernel) q_dc106 q_ck106
theorem q_pc107 : Cond.code (q_y 107) (q_b 107) (q_ml 107) (q_rt 107) ∈ q_w0 := List.mem_filter.mpr ⟨List.mem_of_getElem? (i := 1178) (by decide +kernel), by decide +kernel⟩
theorem q_dc107 : ∀ e ∈ q_cd107, decode (q_b 107) e.1 = .ok (e.2.2.1, e.2.1) := by decide +kernel
theorem q_ck107 : q_cd107.all (fun e => q_chk 107 e.1 e.2.1 e.2.2.1 e.2.2.2.1 e.2.2.2.2.1 e.2.2.2.2.2) = true := by decide +kernel
theorem q_mok107 : q_mok 107 := q_mk (by decide) q_pc107 (by decide +kernel) (by decide +kernel) rfl (by decide +kernel) q_dc107 q_ck107
theorem q_pc108 : Cond.code (q_y 108) (q_b 108) (q_ml 108) (q_rt 108) ∈ q_w0 := List.mem_filter.mpr ⟨List.mem_of_getElem? (i := 194) (by decide +kernel), by decide +kernel⟩
theorem q_dc108 : ∀ e ∈ q_cd108, decode (q_b 108) e.1 = .ok (e.2.2.1, e.2.1) := by decide +kernel
theorem q_ck108 : q_cd108.all (fun e => q_chk 108 e.1 e.2.1 e.2.2.1 e.2.2.2.1 e.2.2.2.2.1 e.2.2.2.2.2) = true := by decide +kernel
theorem q_mok108 : q_mok 108 := q_mk (by decide) q_pc108 (by decide +kernel) (by decide +kernel) rfl (by decide +kernel) q_dc108 q_ck108
theorem q_pc109 : Cond.code (q_y 109) (q_b 109) (q_ml 109) (q_rt 109) ∈ q_w0 := List.mem_filter.mpr ⟨List.mem_of_getElem? (i := 200) (by decide +kernel), by decide +kernel⟩
theorem q_dc109 : ∀ e ∈ q_cd109, decode (q_b 109) e.1 = .ok (e.2.2.1, e.2.1) := by decide +kernel
theorem q_ck109 : q_cd109.all (fun e => q_chk 109 e.1 e.2.1 e.2.2.1 e.2.2.2.1 e.2.2.2.2.1 e.2.2.2.2.2) = true := by decide +kernel
theorem q_mok109 : q_mok 109 := q_mk (by decide) q_pc109 (by decide +kernel) (by decide +kernel) rfl (by decide +kernel) q_dc109 q_ck109
theorem q_pc110 : Cond.code (q_y 110) (q_b 110) (q_ml 110) (q_rt 110) ∈ q_w0 := List.mem_filter.mpr ⟨List.mem_of_getElem? (i := 457) (by decide +kernel), by decide +kernel⟩
theorem q_dc110 : ∀ e ∈ q_cd110, decode (q_b 110) e.1 = .ok (e.2.2.1, e.2.1) := by decide +kernel
theorem q_ck110 : q_cd110.all (fun e => q_chk 110 e.1 e.2.1 e.2.2.1 e.2.2.2.1 e.2.2.2.2.1 e.2.2.2.2.2) = true := by decide +kernel
theorem q_mok110 : q_mok 110 := q_mk (by decide) q_pc110 (by decide +kernel) (by decide +kernel) rfl (by decide +kernel) q_dc110 q_ck110
theorem q_pc111 : Cond.code (q_y 111) (q_b 111) (q_ml 111) (q_rt 111) ∈ q_w0 := List.mem_filter.mpr ⟨List.mem_of_getElem? (i := 461) (by decide +kernel), by decide +kernel⟩
theorem q_dc111 : ∀ e ∈ q_cd111, decode (q_b 111) e.1 = .ok (e.2.2.1, e.2.1) := by decide +kernel
theorem q_ck111 : q_cd111.all (fun e => q_chk 111 e.1 e.2.1 e.2.2.1 e.2.2.2.1 e.2.2.2.2.1 e.2.2.2.2.2) = true := by decide +kernel
theorem q_mok111 : q_mok 111 := q_mk (by decide) q_pc111 (by decide +kernel) (by decide +kernel) rfl (by decide +kernel) q_dc111 q_ck111
theorem q_pc112 : Cond.code (q_y 112) (q_b 112) (q_ml 112) (q_rt 112) ∈ q_w0 := List.mem_filter.mpr ⟨List.mem_of_getElem? (i := 478) (by decide +kernel), by decide +kernel⟩
theorem q_dc112 : ∀ e ∈ q_cd112, decode (q_b 112) e.1 = .ok (e.2.2.1, e.2.1) := by decide +kernel
theorem q_ck112 : q_cd112.all (fun e => q_chk 112 e.1 e.2.1 e.2.2.1 e.2.2.2.1 e.2.2.2.2.1 e.2.2.2.2.2) = true := by decide +kernel
theorem q_mok112 : q_mok 112 := q_mk (by decide) q_pc112 (by decide +kernel) (by decide +kernel) rfl (by decide +kernel) q_dc112 q_ck112
theorem q_pc113 : Cond.code (q_y 113) (q_b 113) (q_ml 113) (q_rt 113) ∈ q_w0 := List.mem_filter.mpr ⟨List.mem_of_getElem? (i := 492) (by decide +kernel), by decide +kernel⟩
theorem q_dc113 : ∀ e ∈ q_cd113, decode (q_b 113) e.1 = .ok (e.2.2.1, e.2.1) := by decide +kernel
theorem q_ck113 : q_cd113.all (fun e => q_chk 113 e.1 e.2.1 e.2.2.1 e.2.2.2.1 e.2.2.2.2.1 e.2.2.2.2.2) = true := by decide +kernel
theorem q_mok113 : q_mok 113 := q_mk (by decide) q_pc113 (by decide +kernel) (by decide +kernel) rfl (by decide +kernel) q_dc113 q_ck113
theorem q_pc114 : Cond.code (q_y 114) (q_b 114) (q_ml 114) (q_rt 114) ∈ q_w0 := List.mem_filter.mpr ⟨List.mem_of_getElem? (i := 1223) (by decide +kernel), by decide +kernel⟩
theorem q_dc114 : ∀ e ∈ q_cd114, decode (q_b 114) e.1 = .ok (e.2.2.1, e.2.1) := by decide +kernel
theorem q_ck114 : q_cd114.all (fun e => q_chk 114 e.1 e.2.1 e.2.2.1 e.2.2.2.1 e.2.2.2.2.1 e.2.2.2.2.2) = true := by decide +kernel
theorem q_mok114 : q_mok 114 := q_mk (by decide) q_pc114 (by decide +kernel) (by decide +kernel) rfl (by decide +kernel) q_dc114 q_ck114
theorem q_pc115 : Cond.code (q_y 115) (q_b 115) (q_ml 115) (q_rt 115) ∈ q_w0 := List.mem_filter.mpr ⟨List.mem_of_getElem? (i := 1227) (by decide +kernel), by decide +kernel⟩
theorem q_dc115 : ∀ e ∈ q_cd115, decode (q_b 115) e.1 = .ok (e.2.2.1, e.2.1) := by decide +kernel
theorem q_ck115 : q_cd115.all (fun e => q_chk 115 e.1 e.2.1 e.2.2.1 e.2.2.2.1 e.2.2.2.2.1 e.2.2.2.2.2) = true := by decide +kernel
theorem q_mok115 : q_mok 115 := q_mk (by decide) q_pc115 (by decide +kernel) (by decide +kernel) rfl (by decide +kernel) q_dc115 q_ck115
theorem q_pc116 : Cond.code (q_y 116) (q_b 116) (q_ml 116) (q_rt 116) ∈ q_w0 := List.mem_filter.mpr ⟨List.mem_of_getElem? (i := 1491) (by decide +kernel), by decide +kernel⟩
theorem q_dc116 : ∀ e ∈ q_cd116, decode (q_b 116) e.1 = .ok (e.2.2.1, e.2.1) := by decide +kernel
theorem q_ck116 : q_cd116.all (fun e => q_chk 116 e.1 e.2.1 e.2.2.1 e.2.2.2.1 e.2.2.2.2.1 e.2.2.2.2.2) = true := by decide +kernel
theorem q_mok116 : q_mok 116 := q_mk (by decide) q_pc116 (by decide +kernel) (by decide +kernel) rfl (by decide +kernel) q_dc116 q_ck116
theorem q_pc117 : Cond.code (q_y 117) (q_b 117) (q_ml 117) (q_rt 117) ∈ q_w0 := List.mem_filter.mpr ⟨List.mem_of_getElem? (i := 1590) (by decide +kernel), by decide +kernel⟩
theorem q_dc117 : ∀ e ∈ q_cd117, decode (q_b 117) e.1 = .ok (e.2.2.1, e.2.1) := by decide +kernel
theorem q_ck117 : q_cd117.all (fun e => q_chk 117 e.1 e.2.1 e.2.2.1 e.2.2.2.1 e.2.2.2.2.1 e.2.2.2.2.2) = true := by decide +kernel
theorem q_mok117 : q_mok 117 := q_mk (by decide) q_pc117 (by decide +kernel) (by decide +kernel) rfl (by decide +kernel) q_dc117 q_ck117
theorem q_pc118 : Cond.code (q_y 118) (q_b 118) (q_ml 118) (q_rt 118) ∈ q_w0 := List.mem_filter.mpr ⟨List.mem_of_getElem? (i := 1636) (by decide +kernel), by decide +kernel⟩
theorem q_dc118 : ∀ e ∈ q_cd118, decode (q_b 118) e.1 = .ok (e.2.2.1, e.2.1) := by decide +kernel
theorem q_ck118 : q_cd118.all (fun e => q_chk 118 e.1 e.2.1 e.2.2.1 e.2.2.2.1 e.2.2.2.2.1 e.2.2.2.2.2) = true := by decide +kernel
theorem q_mok118 : q_mok 118 := q_mk (by decide) q_pc118 (by decide +kernel) (by decide +kernel) rfl (by decide +kernel) q_dc118 q_ck118
theorem q_pc119 : Cond.code (q_y 119) (q_b 119) (q_ml 119) (q_rt 119) ∈ q_w0 := List.mem_filter.mpr ⟨List.mem_of_getElem? (i := 1644) (by decide +kernel), by decide +kernel⟩
theorem q_dc119 : ∀ e ∈ q_cd119, decode (q_b 119) e.1 = .ok (e.2.2.1, e.2.1) := by decide +kernel
theorem q_ck119 : q_cd119.all (fun e => q_chk 119 e.1 e.2.1 e.2.2.1 e.2.2.2.1 e.2.2.2.2.1 e.2.2.2.2.2) = true := by decide +kernel
theorem q_mok119 : q_mok 119 := q_mk (by decide) q_pc119 (by decide +kernel) (by decide +kernel) rfl (by decide +kernel) q_dc119 q_ck119
theorem q_pc120 : Cond.code (q_y 120) (q_b 120) (q_ml 120) (q_rt 120) ∈ q_w0 := List.mem_filter.mpr ⟨List.mem_of_getElem? (i := 1659) (by decide +kernel), by decide +kernel⟩
theorem q_dc120 : ∀ e ∈ q_cd120, decode (q_b 120) e.1 = .ok (e.2.2.1, e.2.1) := by decide +kernel
theorem q_ck120 : q_cd120.all (fun e => q_chk 120 e.1 e.2.1 e.2.2.1 e.2.2.2.1 e.2.2.2.2.1 e.2.2.2.2.2) = true := by decide +kernel
theorem q_mok120 : q_mok 120 := q_mk (by decide) q_pc120 (by decide +kernel) (by decide +kernel) rfl (by decide +kernel) q_dc120 q_ck120
theorem q_pc121 : Cond.code (q_y 121) (q_b 121) (q_ml 121) (q_rt 121) ∈ q_w0 := List.mem_filter.mpr ⟨List.mem_of_getElem? (i := 860) (by decide +kernel), by decide +kernel⟩
theorem q_dc121 : ∀ e ∈ q_cd121, decode (q_b 121) e.1 = .ok (e.2.2.1, e.2.1) := by decide +kernel
theorem q_ck121 : q_cd121.all (fun e => q_chk 121 e.1 e.2.1 e.2.2.1 e.2.2.2.1 e.2.2.2.2.1 e.2.2.2.2.2) = true := by decide +kernel
theorem q_mok121 : q_mok 121 := q_mk (by decide) q_pc121 (by decide +kernel) (by decide +kernel) rfl (by decide +kernel) q_dc121 q_ck121
theorem q_pc122 : Cond.code (q_y 122) (q_b 122) (q_ml 122) (q_rt 122) ∈ q_w0 := List.mem_filter.mpr ⟨List.mem_of_getElem? (i := 1671) (by decide +kernel), by decide +kernel⟩
theorem q_dc122 : ∀ e ∈ q_cd122, decode (q_b 122) e.1 = .ok (e.2.2.1, e.2.1) := by decide +kernel
theorem q_ck122 : q_cd122.all (fun e => q_chk 122 e.1 e.2.1 e.2.2.1 e.2.2.2.1 e.2.2.2.2.1 e.2.2.2.2.2) = true := by decide +kernel
theorem q_mok122 : q_mok 122 := q_mk (by decide) q_pc122 (by decide +kernel) (by decide +kernel) rfl (by decide +kernel) q_dc122 q_ck122
theorem q_pc123 : Cond.code (q_y 123) (q_b 123) (q_ml 123) (q_rt 123) ∈ q_w0 := List.mem_filter.mpr ⟨List.mem_of_getElem? (i := 1703) (by decide +kernel), by decide +kernel⟩
theorem q_dc123 : ∀ e ∈ q_cd123, decode (q_b 123) e.1 = .ok (e.2.2.1, e.2.1) := by decide +kernel
theorem q_ck123 : q_cd123.all (fun e => q_chk 123 e.1 e.2.1 e.2.2.1 e.2.2.2.1 e.2.2.2.2.1 e.2.2.2.2.2) = true := by decide +kernel
theorem q_mok123 : q_mok 123 := q_mk (by decide) q_pc123 (by decide +kernel) (by decide +kernel) rfl (by decide +kernel) q_dc123 q_ck123
theorem q_pc124 : Cond.code (q_y 124) (q_b 124) (q_ml 124) (q_rt 124) ∈ q_w0 := List.mem_filter.mpr ⟨List.mem_of_getElem? (i := 1719) (by decide +kernel), by decide +kernel⟩
theorem q_dc124 : ∀ e ∈ q_cd124, decode (q_b 124) e.1 = .ok (e.2.2.1, e.2.1) := by decide +kernel
theorem q_ck124 : q_cd124.all (fun e => q_chk 124 e.1 e.2.1 e.2.2.1 e.2.2.2.1 e.2.2.2.2.1 e.2.2.2.2.2) = true := by decide +kernel
theorem q_mok124 : q_mok 124 := q_mk (by decide) q_pc124 (by decide +kernel) (by decide +kernel) rfl (by decide +kernel) q_dc124 q_ck124
theorem q_pc125 : Cond.code (q_y 125) (q_b 125) (q_ml 125) (q_rt 125) ∈ q_w0 := List.mem_filter.mpr ⟨List.mem_of_getElem? (i := 1723) (by decide +kernel), by decide +kernel⟩
theorem q_dc125 : ∀ e ∈ q_cd125, decode (q_b 125) e.1 = .ok (e.2.2.1, e.2.1) := by decide +kernel
theorem q_ck125 : q_cd125.all (fun e => q_chk 125 e.1 e.2.1 e.2.2.1 e.2.2.2.1 e.2.2.2.2.1 e.2.2.2.2.2) = true := by decide +kernel
theorem q_mok125 : q_mok 125 := q_mk (by decide) q_pc125 (by decide +kernel) (by decide +kernel) rfl (by decide +kernel) q_dc125 q_ck125
theorem q_pc126 : Cond.code (q_y 126) (q_b 126) (q_ml 126) (q_rt 126) ∈ q_w0 := List.mem_filter.mpr ⟨List.mem_of_getElem? (i := 1727) (by decide +kernel), by decide +kernel⟩
theorem q_dc126 : ∀ e ∈ q_cd126, decode (q_b 126) e.1 = .ok (e.2.2.1, e.2.1) := by decide +kernel
theorem q_ck126 : q_cd126.all (fun e => q_chk 126 e.1 e.2.1 e.2.2.1 e.2.2.2.1 e.2.2.2.2.1 e.2.2.2.2.2) = true := by decide +kernel
theorem q_mok126 : q_mok 126 := q_mk (by decide) q_pc126 (by decide +kernel) (by decide +kernel) rfl (by decide +kernel) q_dc126 q_ck126
theorem q_pc127 : Cond.code (q_y 127) (q_b 127) (q_ml 127) (q_rt 127) ∈ q_w0 := List.mem_filter.mpr ⟨List.mem_of_getElem? (i := 1707) (by decide +kernel), by decide +kernel⟩
theorem q_dc127 : ∀ e ∈ q_cd127, decode (q_b 127) e.1 = .ok (e.2.2.1, e.2.1) := by decide +kernel
theorem q_ck127 : q_cd127.all (fun e => q_chk 127 e.1 e.2.1 e.2.2.1 e.2.2.2.1 e.2.2.2.2.1 e.2.2.2.2.2) = true := by decide +kernel
theorem q_mok127 : q_mok 127 := q_mk (by decide) q_pc127 (by decide +kernel) (by decide +kernel) rfl (by decide +kernel) q_dc127 q_ck127
theorem q_pc128 : Cond.code (q_y 128) (q_b 128) (q_ml 128) (q_rt 128) ∈ q_w0 := List.mem_filter.mpr ⟨List.mem_of_getElem? (i := 1743) (by decide +kernel), by decide +kernel⟩
theorem q_dc128 : ∀ e ∈ q_cd128, decode (q_b 128) e.1 = .ok (e.2.2.1, e.2.1) := by decide +kernel
theorem q_ck128 : q_cd128.all (fun e => q_chk 128 e.1 e.2.1 e.2.2.1 e.2.2.2.1 e.2.2.2.2.1 e.2.2.2.2.2) = true := by decide +kernel
theorem q_mok128 : q_mok 128 := q_mk (by decide) q_pc128 (by decide +kernel) (by decide +kernel) rfl (by decide +kernel) q_dc128 q_ck128
theorem q_pc129 : Cond.code (q_y 129) (q_b 129) (q_ml 129) (q_rt 129) ∈ q_w0 := List.mem_filter.mpr ⟨List.mem_of_getElem? (i := 1747) (by decide +kernel), by decide +kernel⟩
theorem q_dc129 : ∀ e ∈ q_cd129, decode (q_b 129) e.1 = .ok (e.2.2.1, e.2.1) := by decide +kernel
theorem q_ck129 : q_cd129.all (fun e => q_chk 129 e.1 e.2.1 e.2.2.1 e.2.2.2.1 e.2.2.2.2.1 e.2.2.2.2.2) = true := by decide +kernel
theorem q_mok129 : q_mok 129 := q_mk (by decide) q_pc129 (by decide +kernel) (by decide +kernel) rfl (by decide +kernel) q_dc129 q_ck129
theorem q_pc130 : Cond.code (q_y 130) (q_b 130) (q_ml 130) (q_rt 130) ∈ q_w0 := List.mem_filter.mpr ⟨List.mem_of_getElem? (i := 1739) (by decide +kernel), by decide +kernel⟩
theorem q_dc130 : ∀ e ∈ q_cd130, decode (q_b 130) e.1 = .ok (e.2.2.1, e.2.1) := by decide +kernel
theorem q_ck130 : q_cd130.all (fun e => q_chk 130 e.1 e.2.1 e.2.2.1 e.2.2.2.1 e.2.2.2.2.1 e.2.2.2.2.2) = true := by decide +kernel
theorem q_mok130 : q_mok 130 := q_mk (by decide) q_pc130 (by decide +kernel) (by decide +kernel) rfl (by decide +kernel) q_dc130 q_ck130
theorem q_pc131 : Cond.code (q_y 131) (q_b 131) (q_ml 131) (q_rt 131) ∈ q_w0 := List.mem_filter.mpr ⟨List.mem_of_getElem? (i := 1767) (by decide +kernel), by decide +kernel⟩
theorem q_dc131 : ∀ e ∈ q_cd131, decode (q_b 131) e.1 = .ok (e.2.2.1, e.2.1) := by decide +kernel
theorem q_ck131 : q_cd131.all (fun e => q_chk 131 e.1 e.2.1 e.2.2.1 e.2.2.2.1 e.2.2.2.2.1 e.2.2.2.2.2) = true := by decide +kernel
theorem q_mok131 : q_mok 131 := q_mk (by decide) q_pc131 (by decide +kernel) (by decide +kernel) rfl (by decide +kernel) q_dc131 q_ck131
theorem q_pc132 : Cond.code (q_y 132) (q_b 132) (q_ml 132) (q_rt 132) ∈ q_w0 := List.mem_filter.mpr ⟨List.mem_of_getElem? (i := 1775) (by decide +kernel), by decide +kernel⟩
theorem q_dc132 : ∀ e ∈ q_cd132, decode (q_b 132) e.1 = .ok (e.2.2.1, e.2.1) := by decide +kernel
theorem q_ck132 : q_cd132.all (fun e => q_chk 132 e.1 e.2.1 e.2.2.1 e.2.2.2.1 e.2.2.2.2.1 e.2.2.2.2.2) = true := by decide +kernel
theorem q_mok132 : q_mok 132 := q_mk (by decide) q_pc132 (by decide +kernel) (by decide +kernel) rfl (by decide +kernel) q_dc132 q_ck132
theorem q_pc133 : Cond.code (q_y 133) (q_b 133) (q_ml 133) (q_rt 133) ∈ q_w0 := List.mem_filter.mpr ⟨List.mem_of_getElem? (i := 1779) (by decide +kernel), by decide +kernel⟩
theorem q_dc133 : ∀ e ∈ q_cd133, decode (q_b 133) e.1 = .ok (e.2.2.1, e.2.1) := by decide +kernel
theorem q_ck133 : q_cd133.all (fun e => q_chk 133 e.1 e.2.1 e.2.2.1 e.2.2.2.1 e.2.2.2.2.1 e.2.2.2.2.2) = true := by decide +kernel
theorem q_mok133 : q_mok 133 := q_mk (by decide) q_pc133 (by decide +kernel) (by decide +kernel) rfl (by decide +kernel) q_dc133 q_ck133
theorem q_pc134 : Cond.code (q_y 134) (q_b 134) (q_ml 134) (q_rt 134) ∈ q_w0 := List.mem_filter.mpr ⟨List.mem_of_getElem? (i := 1016) (by decide +kernel), by decide +kernel⟩
theorem q_dc134 : ∀ e ∈ q_cd134, decode (q_b 134) e.1 = .ok (e.2.2.1, e.2.1) := by decide +kernel
theorem q_ck134 : q_cd134.all (fun e => q_chk 134 e.1 e.2.1 e.2.2.1 e.2.2.2.1 e.2.2.2.2.1 e.2.2.2.2.2) = true := by decide +kernel
theorem q_mok134 : q_mok 134 := q_mk (by decide) q_pc134 (by decide +kernel) (by decide +kernel) rfl (by decide +kernel) q_dc134 q_ck134
theorem q_pc135 : Cond.code (q_y 135) (q_b 135) (q_ml 135) (q_rt 135) ∈ q_w0 := List.mem_filter.mpr ⟨List.mem_of_getElem? (i := 1835) (by decide +kernel), by decide +kernel⟩
theorem q_dc135 : ∀ e ∈ q_cd135, decode (q_b 135) e.1 = .ok (e.2.2.1, e.2.1) := by decide +kernel
theorem q_ck135 : q_cd135.all (fun e => q_chk 135 e.1 e.2.1 e.2.2.1 e.2.2.2.1 e.2.2.2.2.1 e.2.2.2.2.2) = true := by decide +kernel
theorem q_mok135 : q_mok 135 := q_mk (by decide) q_pc135 (by decide +kernel) (by decide +kernel) rfl (by decide +kernel) q_dc135 q_ck135
theorem q_pc136 : Cond.code (q_y 136) (q_b 136) (q_ml 136) (q_rt 136) ∈ q_w0 := List.mem_filter.mpr ⟨List.mem_of_getElem? (i := 1699) (by decide +kernel), by decide +kernel⟩
theorem q_dc136 : ∀ e ∈ q_cd136, decode (q_b 136) e.1 = .ok (e.2.2.1, e.2.1) := by decide +kernel
theorem q_ck136 : q_cd136.all (fun e => q_chk 136 e.1 e.2.1 e.2.2.1 e.2.2.2.1 e.2.2.2.2.1 e.2.2.2.2.2) = true := by decide +kernel
theorem q_mok136 : q_mok 136 := q_mk (by decide) q_pc136 (by decide +kernel) (by decide +kernel) rfl (by decide +kernel) q_dc136 q_ck136
theorem q_pc137 : Cond.code (q_y 137) (q_b 137) (q_ml 137) (q_rt 137) ∈ q_w0 := List.mem_filter.mpr ⟨List.mem_of_getElem? (i := 1863) (by decide +kernel), by decide +kernel⟩
theorem q_dc137 : ∀ e ∈ q_cd137, decode (q_b 137) e.1 = .ok (e.2.2.1, e.2.1) := by decide +kernel
theorem q_ck137 : q_cd137.all (fun e => q_chk 137 e.1 e.2.1 e.2.2.1 e.2.2.2.1 e.2.2.2.2.1 e.2.2.2.2.2) = true := by decide +kernel
theorem q_mok137 : q_mok 137 := q_mk (by decide) q_pc137 (by decide +kernel) (by decide +kernel) rfl (by decide +kernel) q_dc137 q_ck137
theorem q_pc138 : Cond.code (q_y 138) (q_b 138) (q_ml 138) (q_rt 138) ∈ q_w0 := List.mem_filter.mpr ⟨List.mem_of_getElem? (i := 1088) (by decide +kernel), by decide +kernel⟩
theorem q_dc138 : ∀ e ∈ q_cd138, decode (q_b 138) e.1 = .ok (e.2.2.1, e.2.1) := by decide +kernel
theorem q_ck138 : q_cd138.all (fun e => q_chk 138 e.1 e.2.1 e.2.2.1 e.2.2.2.1 e.2.2.2.2.1 e.2.2.2.2.2) = true := by decide +kernel
theorem q_mok138 : q_mok 138 := q_mk (by decide) q_pc138 (by decide +kernel) (by decide +kernel) rfl (by decide +kernel) q_dc138 q_ck138
theorem q_pc139 : Cond.code (q_y 139) (q_b 139) (q_ml 139) (q_rt 139) ∈ q_w0 := List.mem_filter.mpr ⟨List.mem_of_getElem? (i := 1655) (by decide +kernel), by decide +kernel⟩
theorem q_dc139 : ∀ e ∈ q_cd139, decode (q_b 139) e.1 = .ok (e.2.2.1, e.2.1) := by decide +kernel
theorem q_ck139 : q_cd139.all (fun e => q_chk 139 e.1 e.2.1 e.2.2.1 e.2.2.2.1 e.2.2.2.2.1 e.2.2.2.2.2) = true := by decide +kernel
theorem q_mok139 : q_mok 139 := q_mk (by decide) q_pc139 (by decide +kernel) (by decide +kernel) rfl (by decide +kernel) q_dc139 q_ck139
