theorem q_pc140 : Cond.code (q_y 140) (q_b 140) (q_ml 140) (q_rt 140) ∈ q_w0 := List.mem_filter.mpr ⟨List.mem_of_getElem? (i := 1195) (by decide +kernel), by decide +kernel⟩
theorem q_dc140 : ∀ e ∈ q_cd140, decode (q_b 140) e.1 = .ok (e.2.2.1, e.2.1) := by decide +kernel
theorem q_ck140 : q_cd140.all (fun e => q_chk 140 e.1 e.2.1 e.2.2.1 e.2.2.2.1 e.2.2.2.2.1 e.2.2.2.2.2) = true := by decide +kernel
theorem q_mok140 : q_mok 140 := q_mk (by decide) q_pc140 (by decide +kernel) (by decide +kernel) rfl (by decide +kernel) q_dc140 q_ck140
theorem q_pc141 : Cond.code (q_y 141) (q_b 141) (q_ml 141) (q_rt 141) ∈ q_w0 := List.mem_filter.mpr ⟨List.mem_of_getElem? (i := 1896) (by decide +kernel), by decide +kernel⟩
theorem q_dc141 : ∀ e ∈ q_cd141, decode (q_b 141) e.1 = .ok (e.2.2.1, e.2.1) := by decide +kernel
theorem q_ck141 : q_cd141.all (fun e => q_chk 141 e.1 e.2.1 e.2.2.1 e.2.2.2.1 e.2.2.2.2.1 e.2.2.2.2.2) = true := by decide +kernel
theorem q_mok141 : q_mok 141 := q_mk (by decide) q_pc141 (by decide +kernel) (by decide +kernel) rfl (by decide +kernel) q_dc141 q_ck141
theorem q_pc142 : Cond.code (q_y 142) (q_b 142) (q_ml 142) (q_rt 142) ∈ q_w0 := List.mem_filter.mpr ⟨List.mem_of_getElem? (i := 130) (by decide +kernel), by decide +kernel⟩
theorem q_dc142 : ∀ e ∈ q_cd142, decode (q_b 142) e.1 = .ok (e.2.2.1, e.2.1) := by decide +kernel
theorem q_ck142 : q_cd142.all (fun e => q_chk 142 e.1 e.2.1 e.2.2.1 e.2.2.2.1 e.2.2.2.2.1 e.2.2.2.2.2) = true := by decide +kernel
theorem q_mok142 : q_mok 142 := q_mk (by decide) q_pc142 (by decide +kernel) (by decide +kernel) rfl (by decide +kernel) q_dc142 q_ck142
theorem q_pc143 : Cond.code (q_y 143) (q_b 143) (q_ml 143) (q_rt 143) ∈ q_w0 := List.mem_filter.mpr ⟨List.mem_of_getElem? (i := 138) (by decide +kernel), by decide +kernel⟩
theorem q_dc143 : ∀ e ∈ q_cd143, decode (q_b 143) e.1 = .ok (e.2.2.1, e.2.1) := by decide +kernel
theorem q_ck143 : q_cd143.all (fun e => q_chk 143 e.1 e.2.1 e.2.2.1 e.2.2.2.1 e.2.2.2.2.1 e.2.2.2.2.2) = true := by decide +kernel
theorem q_mok143 : q_mok 143 := q_mk (by decide) q_pc143 (by decide +kernel) (by decide +kernel) rfl (by decide +kernel) q_dc143 q_ck143
theorem q_pc144 : Cond.code (q_y 144) (q_b 144) (q_ml 144) (q_rt 144) ∈ q_w0 := List.mem_filter.mpr ⟨List.mem_of_getElem? (i := 282) (by decide +kernel), by decide +kernel⟩
theorem q_dc144 : ∀ e ∈ q_cd144, decode (q_b 144) e.1 = .ok (e.2.2.1, e.2.1) := by decide +kernel
theorem q_ck144 : q_cd144.all (fun e => q_chk 144 e.1 e.2.1 e.2.2.1 e.2.2.2.1 e.2.2.2.2.1 e.2.2.2.2.2) = true := by decide +kernel
theorem q_mok144 : q_mok 144 := q_mk (by decide) q_pc144 (by decide +kernel) (by decide +kernel) rfl (by decide +kernel) q_dc144 q_ck144
theorem q_pc145 : Cond.code (q_y 145) (q_b 145) (q_ml 145) (q_rt 145) ∈ q_w0 := List.mem_filter.mpr ⟨List.mem_of_getElem? (i := 382) (by decide +kernel), by decide +kernel⟩
theorem q_dc145 : ∀ e ∈ q_cd145, decode (q_b 145) e.1 = .ok (e.2.2.1, e.2.1) := by decide +kernel
theorem q_ck145 : q_cd145.all (fun e => q_chk 145 e.1 e.2.1 e.2.2.1 e.2.2.2.1 e.2.2.2.2.1 e.2.2.2.2.2) = true := by decide +kernel
theorem q_mok145 : q_mok 145 := q_mk (by decide) q_pc145 (by decide +kernel) (by decide +kernel) rfl (by decide +kernel) q_dc145 q_ck145
theorem q_pc146 : Cond.code (q_y 146) (q_b 146) (q_ml 146) (q_rt 146) ∈ q_w0 := List.mem_filter.mpr ⟨List.mem_of_getElem? (i := 405) (by decide +kernel), by decide +kernel⟩
theorem q_dc146 : ∀ e ∈ q_cd146, decode (q_b 146) e.1 = .ok (e.2.2.1, e.2.1) := by decide +kernel
theorem q_ck146 : q_cd146.all (fun e => q_chk 146 e.1 e.2.1 e.2.2.1 e.2.2.2.1 e.2.2.2.2.1 e.2.2.2.2.2) = true := by decide +kernel
theorem q_mok146 : q_mok 146 := q_mk (by decide) q_pc146 (by decide +kernel) (by decide +kernel) rfl (by decide +kernel) q_dc146 q_ck146
theorem q_pc147 : Cond.code (q_y 147) (q_b 147) (q_ml 147) (q_rt 147) ∈ q_w0 := List.mem_filter.mpr ⟨List.mem_of_getElem? (i := 429) (by decide +kernel), by decide +kernel⟩
theorem q_dc147 : ∀ e ∈ q_cd147, decode (q_b 147) e.1 = .ok (e.2.2.1, e.2.1) := by decide +kernel
theorem q_ck147 : q_cd147.all (fun e => q_chk 147 e.1 e.2.1 e.2.2.1 e.2.2.2.1 e.2.2.2.2.1 e.2.2.2.2.2) = true := by decide +kernel
theorem q_mok147 : q_mok 147 := q_mk (by decide) q_pc147 (by decide +kernel) (by decide +kernel) rfl (by decide +kernel) q_dc147 q_ck147
theorem q_pc148 : Cond.code (q_y 148) (q_b 148) (q_ml 148) (q_rt 148) ∈ q_w0 := List.mem_filter.mpr ⟨List.mem_of_getElem? (i := 1218) (by decide +kernel), by decide +kernel⟩
theorem q_dc148 : ∀ e ∈ q_cd148, decode (q_b 148) e.1 = .ok (e.2.2.1, e.2.1) := by decide +kernel
theorem q_ck148 : q_cd148.all (fun e => q_chk 148 e.1 e.2.1 e.2.2.1 e.2.2.2.1 e.2.2.2.2.1 e.2.2.2.2.2) = true := by decide +kernel
theorem q_mok148 : q_mok 148 := q_mk (by decide) q_pc148 (by decide +kernel) (by decide +kernel) rfl (by decide +kernel) q_dc148 q_ck148
theorem q_pc149 : Cond.code (q_y 149) (q_b 149) (q_ml 149) (q_rt 149) ∈ q_w0 := List.mem_filter.mpr ⟨List.mem_of_getElem? (i := 536) (by decide +kernel), by decide +kernel⟩
theorem q_dc149 : ∀ e ∈ q_cd149, decode (q_b 149) e.1 = .ok (e.2.2.1, e.2.1) := by decide +kernel
theorem q_ck149 : q_cd149.all (fun e => q_chk 149 e.1 e.2.1 e.2.2.1 e.2.2.2.1 e.2.2.2.2.1 e.2.2.2.2.2) = true := by decide +kernel
theorem q_mok149 : q_mok 149 := q_mk (by decide) q_pc149 (by decide +kernel) (by decide +kernel) rfl (by decide +kernel) q_dc149 q_ck149
theorem q_pc150 : Cond.code (q_y 150) (q_b 150) (q_ml 150) (q_rt 150) ∈ q_w0 := List.mem_filter.mpr ⟨List.mem_of_getElem? (i := 1912) (by decide +kernel), by decide +kernel⟩
theorem q_dc150 : ∀ e ∈ q_cd150, decode (q_b 150) e.1 = .ok (e.2.2.1, e.2.1) := by decide +kernel
theorem q_ck150 : q_cd150.all (fun e => q_chk 150 e.1 e.2.1 e.2.2.1 e.2.2.2.1 e.2.2.2.2.1 e.2.2.2.2.2) = true := by decide +kernel
theorem q_mok150 : q_mok 150 := q_mk (by decide) q_pc150 (by decide +kernel) (by decide +kernel) rfl (by decide +kernel) q_dc150 q_ck150
theorem q_pc151 : Cond.code (q_y 151) (q_b 151) (q_ml 151) (q_rt 151) ∈ q_w0 := List.mem_filter.mpr ⟨List.mem_of_getElem? (i := 548) (by decide +kernel), by decide +kernel⟩
theorem q_dc151 : ∀ e ∈ q_cd151, decode (q_b 151) e.1 = .ok (e.2.2.1, e.2.1) := by decide +kernel
theorem q_ck151 : q_cd151.all (fun e => q_chk 151 e.1 e.2.1 e.2.2.1 e.2.2.2.1 e.2.2.2.2.1 e.2.2.2.2.2) = true := by decide +kernel
theorem q_mok151 : q_mok 151 := q_mk (by decide) q_pc151 (by decide +kernel) (by decide +kernel) rfl (by decide +kernel) q_dc151 q_ck151
theorem q_pc152 : Cond.code (q_y 152) (q_b 152) (q_ml 152) (q_rt 152) ∈ q_w0 := List.mem_filter.mpr ⟨List.mem_of_getElem? (i := 552) (by decide +kernel), by decide +kernel⟩
theorem q_dc152 : ∀ e ∈ q_cd152, decode (q_b 152) e.1 = .ok (e.2.2.1, e.2.1) := by decide +kernel
theorem q_ck152 : q_cd152.all (fun e => q_chk 152 e.1 e.2.1 e.2.2.1 e.2.2.2.1 e.2.2.2.2.1 e.2.2.2.2.2) = true := by decide +kernel
theorem q_mok152 : q_mok 152 := q_mk (by decide) q_pc152 (by decide +kernel) (by decide +kernel) rfl (by decide +kernel) q_dc152 q_ck152
theorem q_pc153 : Cond.code (q_y 153) (q_b 153) (q_ml 153) (q_rt 153) ∈ q_w0 := List.mem_filter.mpr ⟨List.mem_of_getElem? (i := 557) (by decide +kernel), by decide +kernel⟩
theorem q_dc153 : ∀ e ∈ q_cd153, decode (q_b 153) e.1 = .ok (e.2.2.1, e.2.1) := by decide +kernel
theorem q_ck153 : q_cd153.all (fun e => q_chk 153 e.1 e.2.1 e.2.2.1 e.2.2.2.1 e.2.2.2.2.1 e.2.2.2.2.2) = true := by decide +kernel
theorem q_mok153 : q_mok 153 := q_mk (by decide) q_pc153 (by decide +kernel) (by decide +kernel) rfl (by decide +kernel) q_dc153 q_ck153
theorem q_pc154 : Cond.code (q_y 154) (q_b 154) (q_ml 154) (q_rt 154) ∈ q_w0 := List.mem_filter.mpr ⟨List.mem_of_getElem? (i := 561) (by decide +kernel), by decide +kernel⟩
theorem q_dc154 : ∀ e ∈ q_cd154, decode (q_b 154) e.1 = .ok (e.2.2.1, e.2.1) := by decide +kernel
theorem q_ck154 : q_cd154.all (fun e => q_chk 154 e.1 e.2.1 e.2.2.1 e.2.2.2.1 e.2.2.2.2.1 e.2.2.2.2.2) = true := by decide +kernel
theorem q_mok154 : q_mok 154 := q_mk (by decide) q_pc154 (by decide +kernel) (by decide +kernel) rfl (by decide +kernel) q_dc154 q_ck154
theorem q_pc155 : Cond.code (q_y 155) (q_b 155) (q_ml 155) (q_rt 155) ∈ q_w0 := List.mem_filter.mpr ⟨List.mem_of_getElem? (i := 565) (by decide +kernel), by decide +kernel⟩
theorem q_dc155 : ∀ e ∈ q_cd155, decode (q_b 155) e.1 = .ok (e.2.2.1, e.2.1) := by decide +kernel
theorem q_ck155 : q_cd155.all (fun e => q_chk 155 e.1 e.2.1 e.2.2.1 e.2.2.2.1 e.2.2.2.2.1 e.2.2.2.2.2) = true := by decide +kernel
theorem q_mok155 : q_mok 155 := q_mk (by decide) q_pc155 (by decide +kernel) (by decide +kernel) rfl (by decide +kernel) q_dc155 q_ck155
theorem q_pc156 : Cond.code (q_y 156) (q_b 156) (q_ml 156) (q_rt 156) ∈ q_w0 := List.mem_filter.mpr ⟨List.mem_of_getElem? (i := 571) (by decide +kernel), by decide +kernel⟩
theorem q_dc156 : ∀ e ∈ q_cd156, decode (q_b 156) e.1 = .ok (e.2.2.1, e.2.1) := by decide +kernel
theorem q_ck156 : q_cd156.all (fun e => q_chk 156 e.1 e.2.1 e.2.2.1 e.2.2.2.1 e.2.2.2.2.1 e.2.2.2.2.2) = true := by decide +kernel
theorem q_mok156 : q_mok 156 := q_mk (by decide) q_pc156 (by decide +kernel) (by decide +kernel) rfl (by decide +kernel) q_dc156 q_ck156
theorem q_pc157 : Cond.code (q_y 157) (q_b 157) (q_ml 157) (q_rt 157) ∈ q_w0 := List.mem_filter.mpr ⟨List.mem_of_getElem? (i := 628) (by decide +kernel), by decide +kernel⟩
theorem q_dc157 : ∀ e ∈ q_cd157, decode (q_b 157) e.1 = .ok (e.2.2.1, e.2.1) := by decide +kernel
theorem q_ck157 : q_cd157.all (fun e => q_chk 157 e.1 e.2.1 e.2.2.1 e.2.2.2.1 e.2.2.2.2.1 e.2.2.2.2.2) = true := by decide +kernel
theorem q_mok157 : q_mok 157 := q_mk (by decide) q_pc157 (by decide +kernel) (by decide +kernel) rfl (by decide +kernel) q_dc157 q_ck157
theorem q_pc158 : Cond.code (q_y 158) (q_b 158) (q_ml 158) (q_rt 158) ∈ q_w0 := List.mem_filter.mpr ⟨List.mem_of_getElem? (i := 1449) (by decide +kernel), by decide +kernel⟩
theorem q_dc158 : ∀ e ∈ q_cd158, decode (q_b 158) e.1 = .ok (e.2.2.1, e.2.1) := by decide +kernel
theorem q_ck158 : q_cd158.all (fun e => q_chk 158 e.1 e.2.1 e.2.2.1 e.2.2.2.1 e.2.2.2.2.1 e.2.2.2.2.2) = true := by decide +kernel
theorem q_mok158 : q_mok 158 := q_mk (by decide) q_pc158 (by decide +kernel) (by decide +kernel) rfl (by decide +kernel) q_dc158 q_ck158
theorem q_pc159 : Cond.code (q_y 159) (q_b 159) (q_ml 159) (q_rt 159) ∈ q_w0 := List.mem_filter.mpr ⟨List.mem_of_getElem? (i := 1453) (by decide +kernel), by decide +kernel⟩
theorem q_dc159 : ∀ e ∈ q_cd159, decode (q_b 159) e.1 = .ok (e.2.2.1, e.2.1) := by decide +kernel
theorem q_ck159 : q_cd159.all (fun e => q_chk 159 e.1 e.2.1 e.2.2.1 e.2.2.2.1 e.2.2.2.2.1 e.2.2.2.2.2) = true := by decide +kernel
theorem q_mok159 : q_mok 159 := q_mk (by decide) q_pc159 (by decide +kernel) (by decide +kernel) rfl (by decide +kernel) q_dc159 q_ck159
theorem q_pc160 : Cond.code (q_y 160) (q_b 160) (q_ml 160) (q_rt 160) ∈ q_w0 := List.mem_filter.mpr ⟨List.mem_of_getElem? (i := 1457) (by decide +kernel), by decide +kernel⟩
theorem q_dc160 : ∀ e ∈ q_cd160, decode (q_b 160) e.1 = .ok (e.2.2.1, e.2.1) := by decide +kernel
theorem q_ck160 : q_cd160.all (fun e => q_chk 160 e.1 e.2.1 e.2.2.1 e.2.2.2.1 e.2.2.2.2.1 e.2.2.2.2.2) = true := by decide +kernel
theorem q_mok160 : q_mok 160 := q_mk (by decide) q_pc160 (by decide +kernel) (by decide +kernel) rfl (by decide +kernel) q_dc160 q_ck160
theorem q_pc161 : Cond.code (q_y 161) (q_b 161) (q_ml 161) (q_rt 161) ∈ q_w0 := List.mem_filter.mpr ⟨List.mem_of_getElem? (i := 811) (by decide +kernel), by decide +kernel⟩
theorem q_dc161 : ∀ e ∈ q_cd161, decode (q_b 161) e.1 = .ok (e.2.2.1, e.2.1) := by decide +kernel
theorem q_ck161 : q_cd161.all (fun e => q_chk 161 e.1 e.2.1 e.2.2.1 e.2.2.2.1 e.2.2.2.2.1 e.2.2.2.2.2) = true := by decide +kernel
theorem q_mok161 : q_mok 161 := q_mk (by decide) q_pc161 (by decide +kernel) (by decide +kernel) rfl (by decide +kernel) q_dc161 q_ck161
theorem q_pc162 : Cond.code (q_y 162) (q_b 162) (q_ml 162) (q_rt 162) ∈ q_w0 := List.mem_filter.mpr ⟨List.mem_of_getElem? (i := 1617) (by decide +kernel), by decide +kernel⟩
theorem q_dc162 : ∀ e ∈ q_cd162, decode (q_b 162) e.1 = .ok (e.2.2.1, e.2.1) := by decide +kernel
theorem q_ck162 : q_cd162.all (fun e => q_chk 162 e.1 e.2.1 e.2.2.1 e.2.2.2.1 e.2.2.2.2.1 e.2.2.2.2.2) = true := by decide +kernel
theorem q_mok162 : q_mok 162 := q_mk (by decide) q_pc162 (by decide +kernel) (by decide +kernel) rfl (by decide +kernel) q_dc162 q_ck162
theorem q_pc163 : Cond.code (q_y 163) (q_b 163) (q_ml 163) (q_rt 163) ∈ q_w0 := List.mem_filter.mpr ⟨List.mem_of_getElem? (i := 874) (by decide +kernel), by decide +kernel⟩
theorem q_dc163 : ∀ e ∈ q_cd163, decode (q_b 163) e.1 = .ok (e.2.2.1, e.2.1) := by decide +kernel
theorem q_ck163 : q_cd163.all (fun e => q_chk 163 e.1 e.2.1 e.2.2.1 e.2.2.2.1 e.2.2.2.2.1 e.2.2.2.2.2) = true := by decide +kernel
theorem q_mok163 : q_mok 163 := q_mk (by decide) q_pc163 (by decide +kernel) (by decide +kernel) rfl (by decide +kernel) q_dc163 q_ck163
theorem q_pc164 : Cond.code (q_y 164) (q_b 164) (q_ml 164) (q_rt 164) ∈ q_w0 := List.mem_filter.mpr ⟨List.mem_of_getElem? (i := 878) (by decide +kernel), by decide +kernel⟩
theorem q_dc164 : ∀ e ∈ q_cd164, decode (q_b 164) e.1 = .ok (e.2.2.1, e.2.1) := by decide +kernel
theorem q_ck164 : q_cd164.all (fun e => q_chk 164 e.1 e.2.1 e.2.2.1 e.2.2.2.1 e.2.2.2.2.1 e.2.2.2.2.2) = true := by decide +kernel
theorem q_mok164 : q_mok 164 := q_mk (by decide) q_pc164 (by decide +kernel) (by decide +kernel) rfl (by decide +kernel) q_dc164 q_ck164
theorem q_pc165 : Cond.code (q_y 165) (q_b 165) (q_ml 165) (q_rt 165) ∈ q_w0 := List.mem_filter.mpr ⟨List.mem_of_getElem? (i := 1675) (by decide +kernel), by decide +kernel⟩
theorem q_dc165 : ∀ e ∈ q_cd165, decode (q_b 165) e.1 = .ok (e.2.2.1, e.2.1) := by decide +kernel
theorem q_ck165 : q_cd165.all (fun e => q_chk 165 e.1 e.2.1 e.2.2.1 e.2.2.2.1 e.2.2.2.2.1 e.2.2.2.2.2) = true := by decide +kernel
theorem q_mok165 : q_mok 165 := q_mk (by decide) q_pc165 (by decide +kernel) (by decide +kernel) rfl (by decide +kernel) q_dc165 q_ck165
theorem q_pc166 : Cond.code (q_y 166) (q_b 166) (q_ml 166) (q_rt 166) ∈ q_w0 := List.mem_filter.mpr ⟨List.mem_of_getElem? (i := 1679) (by decide +kernel), by decide +kernel⟩
theorem q_dc166 : ∀ e ∈ q_cd166, decode (q_b 166) e.1 = .ok (e.2.2.1, e.2.1) := by decide +kernel
theorem q_ck166 : q_cd166.all (fun e => q_chk 166 e.1 e.2.1 e.2.2.1 e.2.2.2.1 e.2.2.2.2.1 e.2.2.2.2.2) = true := by decide +kernel
theorem q_mok166 : q_mok 166 := q_mk (by decide) q_pc166 (by decide +kernel) (by decide +kernel) rfl (by decide +kernel) q_dc166 q_ck166
theorem q_pc167 : Cond.code (q_y 167) (q_b 167) (q_ml 167) (q_rt 167) ∈ q_w0 := List.mem_filter.mpr ⟨List.mem_of_getElem? (i := 882) (by decide +kernel), by decide +kernel⟩
theorem q_dc167 : ∀ e ∈ q_cd167, decode (q_b 167) e.1 = .ok (e.2.2.1, e.2.1) := by decide +kernel
theorem q_ck167 : q_cd167.all (fun e => q_chk 167 e.1 e.2.1 e.2.2.1 e.2.2.2.1 e.2.2.2.2.1 e.2.2.2.2.2) = true := by decide +kernel
theorem q_mok167 : q_mok 167 := q_mk (by decide) q_pc167 (by decide +kernel) (by decide +kernel) rfl (by decide +kernel) q_dc167 q_ck167
theorem q_pc168 : Cond.code (q_y 168) (q_b 168) (q_ml 168) (q_rt 168) ∈ q_w0 := List.mem_filter.mpr ⟨List.mem_of_getElem? (i := 886) (by decide +kernel), by decide +kernel⟩
theorem q_dc168 : ∀ e ∈ q_cd168, decode (q_b 168) e.1 = .ok (e.2.2.1, e.2.1) := by decide +kernel
theorem q_ck168 : q_cd168.all (fun e => q_chk 168 e.1 e.2.1 e.2.2.1 e.2.2.2.1 e.2.2.2.2.1 e.2.2.2.2.2) = true := by decide +kernel
theorem q_mok168 : q_mok 168 := q_mk (by decide) q_pc168 (by decide +kernel) (by decide +kernel) rfl (by decide +kernel) q_dc168 q_ck168
theorem q_pc169 : Cond.code (q_y 169) (q_b 169) (q_ml 169) (q_rt 169) ∈ q_w0 := List.mem_filter.mpr ⟨List.mem_of_getElem? (i := 1683) (by decide +kernel), by decide +kernel⟩
theorem q_dc169 : ∀ e ∈ q_cd169, decode (q_b 169) e.1 = .ok (e.2.2.1, e.2.1) := by decide +kernel
theorem q_ck169 : q_cd169.all (fun e => q_chk 169 e.1 e.2.1 e.2.2.1 e.2.2.2.1 e.2.2.2.2.1 e.2.2.2.2.2) = true := by decide +kernel
theorem q_mok169 : q_mok 169 := q_mk (by decide) q_pc169 (by decide +kernel) (by decide +kernel) rfl (by decide +kernel) q_dc169 q_ck169
theorem q_pc170 : Cond.code (q_y 170) (q_b 170) (q_ml 170) (q_rt 170) ∈ q_w0 := List.mem_filter.mpr ⟨List.mem_of_getElem? (i := 891) (by decide +kernel), by decide +kernel⟩
theorem q_dc170 : ∀ e ∈ q_cd170, decode (q_b 170) e.1 = .ok (e.2.2.1, e.2.1) := by decide +kernel
theorem q_ck170 : q_cd170.all (fun e => q_chk 170 e.1 e.2.1 e.2.2.1 e.2.2.2.1 e.2.2.2.2.1 e.2.2.2.2.2) = true := by decide +kernel
theorem q_mok170 : q_mok 170 := q_mk (by decide) q_pc170 (by decide +kernel) (by decide +kernel) rfl (by decide +kernel) q_dc170 q_ck170
theorem q_pc171 : Cond.code (q_y 171) (q_b 171) (q_ml 171) (q_rt 171) ∈ q_w0 := List.mem_filter.mpr ⟨List.mem_of_getElem? (i := 1687) (by decide +kernel), by decide +kernel⟩
theorem q_dc171 : ∀ e ∈ q_cd171, decode (q_b 171) e.1 = .ok (e.2.2.1, e.2.1) := by decide +kernel
theorem q_ck171 : q_cd171.all (fun e => q_chk 171 e.1 e.2.1 e.2.2.1 e.2.2.2.1 e.2.2.2.2.1 e.2.2.2.2.2) = true := by decide +kernel
theorem q_mok171 : q_mok 171 := q_mk (by decide) q_pc171 (by decide +kernel) (by decide +kernel) rfl (by decide +kernel) q_dc171 q_ck171
theorem q_pc172 : Cond.code (q_y 172) (q_b 172) (q_ml 172) (q_rt 172) ∈ q_w0 := List.mem_filter.mpr ⟨List.mem_of_getElem? (i := 906) (by decide +kernel), by decide +kernel⟩
theorem q_dc172 : ∀ e ∈ q_cd172, decode (q_b 172) e.1 = .ok (e.2.2.1, e.2.1) := by decide +kernel
theorem q_ck172 : q_cd172.all (fun e => q_chk 172 e.1 e.2.1 e.2.2.1 e.2.2.2.1 e.2.2.2.2.1 e.2.2.2.2.2) = true := by decide +kernel
theorem q_mok172 : q_mok 172 := q_mk (by decide) q_pc172 (by decide +kernel) (by decide +kernel) rfl (by decide +kernel) q_dc172 q_ck172
theorem q_pc173 : Cond.code (q_y 173) (q_b 173) (q_ml 173) (q_rt 173) ∈ q_w0 := List.mem_filter.mpr ⟨List.mem_of_getElem? (i := 1695) (by decide +kernel), by decide +kernel⟩
theorem q_dc173 : ∀ e ∈ q_cd173, decode (q_b 173) e.1 = .ok (e.2.2.1, e.2.1) := by decide +kernel
theorem q_ck173 : q_cd173.all (fun e => q_chk 173 e.1 e.2.1 e.2.2.1 e.2.2.2.1 e.2.2.2.2.1 e.2.2.2.2.2) = true := by decide +kernel
theorem q_mok173 : q_mok 173 := q_mk (by decide) q_pc173 (by decide +kernel) (by decide +kernel) rfl (by decide +kernel) q_dc173 q_ck173
theorem q_pc174 : Cond.code (q_y 174) (q_b 174) (q_ml 174) (q_rt 174) ∈ q_w0 := List.mem_filter.mpr ⟨List.mem_of_getElem? (i := 965) (by decide +kernel), by decide +kernel⟩
theorem q_dc174 : ∀ e ∈ q_cd174, decode (q_b 174) e.1 = .ok (e.2.2.1, e.2.1) := by decide +kernel
theorem q_ck174 : q_cd174.all (fun e => q_chk 174 e.1 e.2.1 e.2.2.1 e.2.2.2.1 e.2.2.2.2.1 e.2.2.2.2.2) = true := by decide +kernel
theorem q_mok174 : q_mok 174 := q_mk (by decide) q_pc174 (by decide +kernel) (by decide +kernel) rfl (by decide +kernel) q_dc174 q_ck174
theorem q_pc175 : Cond.code (q_y 175) (q_b 175) (q_ml 175) (q_rt 175) ∈ q_w0 := List.mem_filter.mpr ⟨List.mem_of_getElem? (i := 969) (by decide +kernel), by decide +kernel⟩
theorem q_dc175 : ∀ e ∈ q_cd175, decode (q_b 175) e.1 = .ok (e.2.2.1, e.2.1) := by decide +kernel
theorem q_ck175 : q_cd175.all (fun e => q_chk 175 e.1 e.2.1 e.2.2.1 e.2.2.2.1 e.2.2.2.2.1 e.2.2.2.2.2) = true := by decide +kernel
theorem q_mok175 : q_mok 175 := q_mk (by decide) q_pc175 (by decide +kernel) (by decide +kernel) rfl (by decide +kernel) q_dc175 q_ck175
theorem q_pc176 : Cond.code (q_y 176) (q_b 176) (q_ml 176) (q_rt 176) ∈ q_w0 := List.mem_filter.mpr ⟨List.mem_of_getElem? (i := 973) (by decide +kernel), by decide +kernel⟩
theorem q_dc176 : ∀ e ∈ q_cd176, decode (q_b 176) e.1 = .ok (e.2.2.1, e.2.1) := by decide +kernel
theorem q_ck176 : q_cd176.all (fun e => q_chk 176 e.1 e.2.1 e.2.2.1 e.2.2.2.1 e.2.2.2.2.1 e.2.2.2.2.2) = true := by decide +kernel
theorem q_mok176 : q_mok 176 := q_mk (by decide) q_pc176 (by decide +kernel) (by decide +kernel) rfl (by decide +kernel) q_dc176 q_ck176
theorem q_pc177 : Cond.code (q_y 177) (q_b 177) (q_ml 177) (q_rt 177) ∈ q_w0 := List.mem_filter.mpr ⟨List.mem_of_getElem? (i := 1731) (by decide +kernel), by decide +kernel⟩
theorem q_dc177 : ∀ e ∈ q_cd177, decode (q_b 177) e.1 = .ok (e.2.2.1, e.2.1) := by decide +kernel
theorem q_ck177 : q_cd177.all (fun e => q_chk 177 e.1 e.2.1 e.2.2.1 e.2.2.2.1 e.2.2.2.2.1 e.2.2.2.2.2) = true := by decide +kernel
theorem q_mok177 : q_mok 177 := q_mk (by decide) q_pc177 (by decide +kernel) (by decide +kernel) rfl (by decide +kernel) q_dc177 q_ck177
theorem q_pc178 : Cond.code (q_y 178) (q_b 178) (q_ml 178) (q_rt 178) ∈ q_w0 := List.mem_filter.mpr ⟨List.mem_of_getElem? (i := 1735) (by decide +kernel), by decide +kernel⟩
theorem q_dc178 : ∀ e ∈ q_cd178, decode (q_b 178) e.1 = .ok (e.2.2.1, e.2.1) := by decide +kernel
theorem q_ck178 : q_cd178.all (fun e => q_chk 178 e.1 e.2.1 e.2.2.1 e.2.2.2.1 e.2.2.2.2.1 e.2.2.2.2.2) = true := by decide +kernel
theorem q_mok178 : q_mok 178 := q_mk (by decide) q_pc178 (by decide +kernel) (by decide +kernel) rfl (by decide +kernel) q_dc178 q_ck178
theorem q_pc179 : Cond.code (q_y 179) (q_b 179) (q_ml 179) (q_rt 179) ∈ q_w0 := List.mem_filter.mpr ⟨List.mem_of_getElem? (i := 1000) (by decide +kernel), by decide +kernel⟩
theorem q_dc179 : ∀ e ∈ q_cd179, decode (q_b 179) e.1 = .ok (e.2.2.1, e.2.1) := by decide +kernel
theorem q_ck179 : q_cd179.all (fun e => q_chk 179 e.1 e.2.1 e.2.2.1 e.2.2.2.1 e.2.2.2.2.1 e.2.2.2.2.2) = true := by decide +kernel
theorem q_mok179 : q_mok 179 := q_mk (by decide) q_pc179 (by decide +kernel) (by decide +kernel) rfl (by decide +kernel) q_dc179 q_ck179
theorem q_pc180 : Cond.code (q_y 180) (q_b 180) (q_ml 180) (q_rt 180) ∈ q_w0 := List.mem_filter.mpr ⟨List.mem_of_getElem? (i := 1759) (by decide +kernel), by decide +kernel⟩
theorem q_dc180 : ∀ e ∈ q_cd180, decode (q_b 180) e.1 = .ok (e.2.2.1, e.2.1) := by decide +kernel
theorem q_ck180 : q_cd180.all (fun e => q_chk 180 e.1 e.2.1 e.2.2.1 e.2.2.2.1 e.2.2.2.2.1 e.2.2.2.2.2) = true := by decide +kernel
theorem q_mok180 : q_mok 180 := q_mk (by decide) q_pc180 (by decide +kernel) (by decide +kernel) rfl (by decide +kernel) q_dc180 q_ck180
theorem q_pc181 : Cond.code (q_y 181) (q_b 181) (q_ml 181) (q_rt 181) ∈ q_w0 := List.mem_filter.mpr ⟨List.mem_of_getElem? (i := 1062) (by decide +kernel), by decide +kernel⟩
theorem q_dc181 : ∀ e ∈ q_cd181, decode (q_b 181) e.1 = .ok (e.2.2.1, e.2.1) := by decide +kernel
theorem q_ck181 : q_cd181.all (fun e => q_chk 181 e.1 e.2.1 e.2.2.1 e.2.2.2.1 e.2.2.2.2.1 e.2.2.2.2.2) = true := by decide +kernel
theorem q_mok181 : q_mok 181 := q_mk (by decide) q_pc181 (by decide +kernel) (by decide +kernel) rfl (by decide +kernel) q_dc181 q_ck181
theorem q_pc182 : Cond.code (q_y 182) (q_b 182) (q_ml 182) (q_rt 182) ∈ q_w0 := List.mem_filter.mpr ⟨List.mem_of_getElem? (i := 1066) (by decide +kernel), by decide +kernel⟩
theorem q_dc182 : ∀ e ∈ q_cd182, decode (q_b 182) e.1 = .ok (e.2.2.1, e.2.1) := by decide +kernel
theorem q_ck182 : q_cd182.all (fun e => q_chk 182 e.1 e.2.1 e.2.2.1 e.2.2.2.1 e.2.2.2.2.1 e.2.2.2.2.2) = true := by decide +kernel
theorem q_mok182 : q_mok 182 := q_mk (by decide) q_pc182 (by decide +kernel) (by decide +kernel) rfl (by decide +kernel) q_dc182 q_ck182
theorem q_pc183 : Cond.code (q_y 183) (q_b 183) (q_ml 183) (q_rt 183) ∈ q_w0 := List.mem_filter.mpr ⟨List.mem_of_getElem? (i := 1815) (by decide +kernel), by decide +kernel⟩
theorem q_dc183 : ∀ e ∈ q_cd183, decode (q_b 183) e.1 = .ok (e.2.2.1, e.2.1) := by decide +kernel
theorem q_ck183 : q_cd183.all (fun e => q_chk 183 e.1 e.2.1 e.2.2.1 e.2.2.2.1 e.2.2.2.2.1 e.2.2.2.2.2) = true := by decide +kernel
theorem q_mok183 : q_mok 183 := q_mk (by decide) q_pc183 (by decide +kernel) (by decide +kernel) rfl (by decide +kernel) q_dc183 q_ck183
theorem q_pc184 : Cond.code (q_y 184) (q_b 184) (q_ml 184) (q_rt 184) ∈ q_w0 := List.mem_filter.mpr ⟨List.mem_of_getElem? (i := 1120) (by decide +kernel), by decide +kernel⟩
theorem q_dc184 : ∀ e ∈ q_cd184, decode (q_b 184) e.1 = .ok (e.2.2.1, e.2.1) := by decide +kernel
theorem q_ck184 : q_cd184.all (fun e => q_chk 184 e.1 e.2.1 e.2.2.1 e.2.2.2.1 e.2.2.2.2.1 e.2.2.2.2.2) = true := by decide +kernel
theorem q_mok184 : q_mok 184 := q_mk (by decide) q_pc184 (by decide +kernel) (by decide +kernel) rfl (by decide +kernel) q_dc184 q_ck184
theorem q_pc185 : Cond.code (q_y 185) (q_b 185) (q_ml 185) (q_rt 185) ∈ q_w0 := List.mem_filter.mpr ⟨List.mem_of_getElem? (i := 1652) (by decide +kernel), by decide +kernel⟩
theorem q_dc185 : ∀ e ∈ q_cd185, decode (q_b 185) e.1 = .ok (e.2.2.1, e.2.1) := by decide +kernel
theorem q_ck185 : q_cd185.all (fun e => q_chk 185 e.1 e.2.1 e.2.2.1 e.2.2.2.1 e.2.2.2.2.1 e.2.2.2.2.2) = true := by decide +kernel
theorem q_mok185 : q_mok 185 := q_mk (by decide) q_pc185 (by decide +kernel) (by decide +kernel) rfl (by decide +kernel) q_dc185 q_ck185
theorem q_pc186 : Cond.code (q_y 186) (q_b 186) (q_ml 186) (q_rt 186) ∈ q_w0 := List.mem_filter.mpr ⟨List.mem_of_getElem? (i := 1157) (by decide +kernel), by decide +kernel⟩
theorem q_dc186 : ∀ e ∈ q_cd186, decode (q_b 186) e.1 = .ok (e.2.2.1, e.2.1) := by decide +kernel
theorem q_ck186 : q_cd186.all (fun e => q_chk 186 e.1 e.2.1 e.2.2.1 e.2.2.2.1 e.2.2.2.2.1 e.2.2.2.2.2) = true := by decide +kernel
theorem q_mok186 : q_mok 186 := q_mk (by decide) q_pc186 (by decide +kernel) (by decide +kernel) rfl (by decide +kernel) q_dc186 q_ck186
theorem q_pc187 : Cond.code (q_y 187) (q_b 187) (q_ml 187) (q_rt 187) ∈ q_w0 := List.mem_filter.mpr ⟨List.mem_of_getElem? (i := 1872) (by decide +kernel), by decide +kernel⟩
theorem q_dc187 : ∀ e ∈ q_cd187, decode (q_b 187) e.1 = .ok (e.2.2.1, e.2.1) := by decide +kernel
theorem q_ck187 : q_cd187.all (fun e => q_chk 187 e.1 e.2.1 e.2.2.1 e.2.2.2.1 e.2.2.2.2.1 e.2.2.2.2.2) = true := by decide +kernel
theorem q_mok187 : q_mok 187 := q_mk (by decide) q_pc187 (by decide +kernel) (by decide +kernel) rfl (by decide +kernel) q_dc187 q_ck187
theorem q_pc188 : Cond.code (q_y 188) (q_b 188) (q_ml 188) (q_rt 188) ∈ q_w0 := List.mem_filter.mpr ⟨List.mem_of_getElem? (i := 1182) (by decide +kernel), by decide +kernel⟩
theorem q_dc188 : ∀ e ∈ q_cd188, decode (q_b 188) e.1 = .ok (e.2.2.1, e.2.1) := by decide +kernel
theorem q_ck188 : q_cd188.all (fun e => q_chk 188 e.1 e.2.1 e.2.2.1 e.2.2.2.1 e.2.2.2.2.1 e.2.2.2.2.2) = true := by decide +kernel
theorem q_mok188 : q_mok 188 := q_mk (by decide) q_pc188 (by decide +kernel) (by decide +kernel) rfl (by decide +kernel) q_dc188 q_ck188
theorem q_pc189 : Cond.code (q_y 189) (q_b 189) (q_ml 189) (q_rt 189) ∈ q_w0 := List.mem_filter.mpr ⟨List.mem_of_getElem? (i := 1186) (by decide +kernel), by decide +kernel⟩
theorem q_dc189 : ∀ e ∈ q_cd189, decode (q_b 189) e.1 = .ok (e.2.2.1, e.2.1) := by decide +kernel
theorem q_ck189 : q_cd189.all (fun e => q_chk 189 e.1 e.2.1 e.2.2.1 e.2.2.2.1 e.2.2.2.2.1 e.2.2.2.2.2) = true := by decide +kernel
theorem q_mok189 : q_mok 189 := q_mk (by decide) q_pc189 (by decide +kernel) (by decide +kernel) rfl (by decide +kernel) q_dc189 q_ck189
theorem q_pc190 : Cond.code (q_y 190) (q_b 190) (q_ml 190) (q_rt 190) ∈ q_w0 := List.mem_filter.mpr ⟨List.mem_of_getElem? (i := 1892) (by decide +kernel), by decide +kernel⟩
theorem q_dc190 : ∀ e ∈ q_cd190, decode (q_b 190) e.1 = .ok (e.2.2.1, e.2.1) := by decide +kernel
theorem q_ck190 : q_cd190.all (fun e => q_chk 190 e.1 e.2.1 e.2.2.1 e.2.2.2.1 e.2.2.2.2.1 e.2.2.2.2.2) = true := by decide +kernel
theorem q_mok190 : q_mok 190 := q_mk (by decide) q_pc190 (by decide +kernel) (by decide +kernel) rfl (by decide +kernel) q_dc190 q_ck190
theorem q_pc191 : Cond.code (q_y 191) (q_b 191) (q_ml 191) (q_rt 191) ∈ q_w0 := List.mem_filter.mpr ⟨List.mem_of_getElem? (i := 1004) (by decide +kernel), by decide +kernel⟩
theorem q_dc191 : ∀ e ∈ q_cd191, decode (q_b 191) e.1 = .ok (e.2.2.1, e.2.1) := by decide +kernel
theorem q_ck191 : q_cd191.all (fun e => q_chk 191 e.1 e.2.1 e.2.2.1 e.2.2.2.1 e.2.2.2.2.1 e.2.2.2.2.2) = true := by decide +kernel
theorem q_mok191 : q_mok 191 := q_mk (by decide) q_pc191 (by decide +kernel) (by decide +kernel) rfl (by decide +kernel) q_dc191 q_ck191
theorem q_pc192 : Cond.code (q_y 192) (q_b 192) (q_ml 192) (q_rt 192) ∈ q_w0 := List.mem_filter.mpr ⟨List.mem_of_getElem? (i := 980) (by decide +kernel), by decide +kernel⟩
theorem q_dc192 : ∀ e ∈ q_cd192, decode (q_b 192) e.1 = .ok (e.2.2.1, e.2.1) := by decide +kernel
theorem q_ck192 : q_cd192.all (fun e => q_chk 192 e.1 e.2.1 e.2.2.1 e.2.2.2.1 e.2.2.2.2.1 e.2.2.2.2.2) = true := by decide +kernel
theorem q_mok192 : q_mok 192 := q_mk (by decide) q_pc192 (by decide +kernel) (by decide +kernel) rfl (by decide +kernel) q_dc192 q_ck192
theorem q_pc193 : Cond.code (q_y 193) (q_b 193) (q_ml 193) (q_rt 193) ∈ q_w0 := List.mem_filter.mpr ⟨List.mem_of_getElem? (i := 839) (by decide +kernel), by decide +kernel⟩
theorem q_dc193 : ∀ e ∈ q_cd193, decode (q_b 193) e.1 = .ok (e.2.2.1, e.2.1) := by decide +kernel
theorem q_ck193 : q_cd193.all (fun e => q_chk 193 e.1 e.2.1 e.2.2.1 e.2.2.2.1 e.2.2.2.2.1 e.2.2.2.2.2) = true := by decide +kernel
theorem q_mok193 : q_mok 193 := q_mk (by decide) q_pc193 (by decide +kernel) (by decide +kernel) rfl (by decide +kernel) q_dc193 q_ck193
theorem q_pc194 : Cond.code (q_y 194) (q_b 194) (q_ml 194) (q_rt 194) ∈ q_w0 := List.mem_filter.mpr ⟨List.mem_of_getElem? (i := 1116) (by decide +kernel), by decide +kernel⟩
theorem q_dc194 : ∀ e ∈ q_cd194, decode (q_b 194) e.1 = .ok (e.2.2.1, e.2.1) := by decide +kernel
theorem q_ck194 : q_cd194.all (fun e => q_chk 194 e.1 e.2.1 e.2.2.1 e.2.2.2.1 e.2.2.2.2.1 e.2.2.2.2.2) = true := by decide +kernel
theorem q_mok194 : q_mok 194 := q_mk (by decide) q_pc194 (by decide +kernel) (by decide +kernel) rfl (by decide +kernel) q_dc194 q_ck194
theorem q_pc195 : Cond.code (q_y 195) (q_b 195) (q_ml 195) (q_rt 195) ∈ q_w0 := List.mem_filter.mpr ⟨List.mem_of_getElem? (i := 910) (by decide +kernel), by decide +kernel⟩
theorem q_dc195 : ∀ e ∈ q_cd195, decode (q_b 195) e.1 = .ok (e.2.2.1, e.2.1) := by decide +kernel
theorem q_ck195 : q_cd195.all (fun e => q_chk 195 e.1 e.2.1 e.2.2.1 e.2.2.2.1 e.2.2.2.2.1 e.2.2.2.2.2) = true := by decide +kernel
theorem q_mok195 : q_mok 195 := q_mk (by decide) q_pc195 (by decide +kernel) (by decide +kernel) rfl (by decide +kernel) q_dc195 q_ck195
theorem q_pc196 : Cond.code (q_y 196) (q_b 196) (q_ml 196) (q_rt 196) ∈ q_w0 := List.mem_filter.mpr ⟨List.mem_of_getElem? (i := 899) (by decide +kernel), by decide +kernel⟩
theorem q_dc196 : ∀ e ∈ q_cd196, decode (q_b 196) e.1 = .ok (e.2.2.1, e.2.1) := by decide +kernel
theorem q_ck196 : q_cd196.all (fun e => q_chk 196 e.1 e.2.1 e.2.2.1 e.2.2.2.1 e.2.2.2.2.1 e.2.2.2.2.2) = true := by decide +kernel
theorem q_mok196 : q_mok 196 := q_mk (by decide) q_pc196 (by decide +kernel) (by decide +kernel) rfl (by decide +kernel) q_dc196 q_ck196
theorem q_pc197 : Cond.code (q_y 197) (q_b 197) (q_ml 197) (q_rt 197) ∈ q_w0 := List.mem_filter.mpr ⟨List.mem_of_getElem? (i := 895) (by decide +kernel), by decide +kernel⟩
theorem q_dc197 : ∀ e ∈ q_cd197, decode (q_b 197) e.1 = .ok (e.2.2.1, e.2.1) := by decide +kernel
theorem q_ck197 : q_cd197.all (fun e => q_chk 197 e.1 e.2.1 e.2.2.1 e.2.2.2.1 e.2.2.2.2.1 e.2.2.2.2.2) = true := by decide +kernel
theorem q_mok197 : q_mok 197 := q_mk (by decide) q_pc197 (by decide +kernel) (by decide +kernel) rfl (by decide +kernel) q_dc197 q_ck197
theorem q_pc198 : Cond.code (q_y 198) (q_b 198) (q_ml 198) (q_rt 198) ∈ q_w0 := List.mem_filter.mpr ⟨List.mem_of_getElem? (i := 1101) (by decide +kernel), by decide +kernel⟩
theorem q_dc198 : ∀ e ∈ q_cd198, decode (q_b 198) e.1 = .ok (e.2.2.1, e.2.1) := by decide +kernel
theorem q_ck198 : q_cd198.all (fun e => q_chk 198 e.1 e.2.1 e.2.2.1 e.2.2.2.1 e.2.2.2.2.1 e.2.2.2.2.2) = true := by decide +kernel
theorem q_mok198 : q_mok 198 := q_mk (by decide) q_pc198 (by decide +kernel) (by decide +kernel) rfl (by decide +kernel) q_dc198 q_ck198
theorem q_pc199 : Cond.code (q_y 199) (q_b 199) (q_ml 199) (q_rt 199) ∈ q_w0 := List.mem_filter.mpr ⟨List.mem_of_getElem? (i := 929) (by decide +kernel), by decide +kernel⟩
theorem q_dc199 : ∀ e ∈ q_cd199, decode (q_b 199) e.1 = .ok (e.2.2.1, e.2.1) := by decide +kernel
theorem q_ck199 : q_cd199.all (fun e => q_chk 199 e.1 e.2.1 e.2.2.1 e.2.2.2.1 e.2.2.2.2.1 e.2.2.2.2.2) = true := by decide +kernel
theorem q_mok199 : q_mok 199 := q_mk (by decide) q_pc199 (by decide +kernel) (by decide +kernel) rfl (by decide +kernel) q_dc199 q_ck199
theorem q_pc200 : Cond.code (q_y 200) (q_b 200) (q_ml 200) (q_rt 200) ∈ q_w0 := List.mem_filter.mpr ⟨List.mem_of_getElem? (i := 944) (by decide +kernel), by decide +kernel⟩
theorem q_dc200 : ∀ e ∈ q_cd200, decode (q_b 200) e.1 = .ok (e.2.2.1, e.2.1) := by decide +kernel
theorem q_ck200 : q_cd200.all (fun e => q_chk 200 e.1 e.2.1 e.2.2.1 e.2.2.2.1 e.2.2.2.2.1 e.2.2.2.2.2) = true := by decide +kernel
theorem q_mok200 : q_mok 200 := q_mk (by decide) q_pc200 (by decide +kernel) (by decide +kernel) rfl (by decide +kernel) q_dc200 q_ck200
theorem q_pc201 : Cond.code (q_y 201) (q_b 201) (q_ml 201) (q_rt 201) ∈ q_w0 := List.mem_filter.mpr ⟨List.mem_of_getElem? (i := 988) (by decide +kernel), by decide +kernel⟩
theorem q_dc201 : ∀ e ∈ q_cd201, decode (q_b 201) e.1 = .ok (e.2.2.1, e.2.1) := by decide +kernel
theorem q_ck201 : q_cd201.all (fun e => q_chk 201 e.1 e.2.1 e.2.2.1 e.2.2.2.1 e.2.2.2.2.1 e.2.2.2.2.2) = true := by decide +kernel
theorem q_mok201 : q_mok 201 := q_mk (by decide) q_pc201 (by decide +kernel) (by decide +kernel) rfl (by decide +kernel) q_dc201 q_ck201
theorem q_pc202 : Cond.code (q_y 202) (q_b 202) (q_ml 202) (q_rt 202) ∈ q_w0 := List.mem_filter.mpr ⟨List.mem_of_getElem? (i := 940) (by decide +kernel), by decide +kernel⟩
theorem q_dc202 : ∀ e ∈ q_cd202, decode (q_b 202) e.1 = .ok (e.2.2.1, e.2.1) := by decide +kernel
theorem q_ck202 : q_cd202.all (fun e => q_chk 202 e.1 e.2.1 e.2.2.1 e.2.2.2.1 e.2.2.2.2.1 e.2.2.2.2.2) = true := by decide +kernel
theorem q_mok202 : q_mok 202 := q_mk (by decide) q_pc202 (by decide +kernel) (by decide +kernel) rfl (by decide +kernel) q_dc202 q_ck202
theorem q_pc203 : Cond.code (q_y 203) (q_b 203) (q_ml 203) (q_rt 203) ∈ q_w0 := List.mem_filter.mpr ⟨List.mem_of_getElem? (i := 955) (by decide +kernel), by decide +kernel⟩
theorem q_dc203 : ∀ e ∈ q_cd203, decode (q_b 203) e.1 = .ok (e.2.2.1, e.2.1) := by decide +kernel
theorem q_ck203 : q_cd203.all (fun e => q_chk 203 e.1 e.2.1 e.2.2.1 e.2.2.2.1 e.2.2.2.2.1 e.2.2.2.2.2) = true := by decide +kernel
theorem q_mok203 : q_mok 203 := q_mk (by decide) q_pc203 (by decide +kernel) (by decide +kernel) rfl (by decide +kernel) q_dc203 q_ck203
theorem q_pc204 : Cond.code (q_y 204) (q_b 204) (q_ml 204) (q_rt 204) ∈ q_w0 := List.mem_filter.mpr ⟨List.mem_of_getElem? (i := 918) (by decide +kernel), by decide +kernel⟩
theorem q_dc204 : ∀ e ∈ q_cd204, decode (q_b 204) e.1 = .ok (e.2.2.1, e.2.1) := by decide +kernel
theorem q_ck204 : q_cd204.all (fun e => q_chk 204 e.1 e.2.1 e.2.2.1 e.2.2.2.1 e.2.2.2.2.1 e.2.2.2.2.2) = true := by decide +kernel
theorem q_mok204 : q_mok 204 := q_mk (by decide) q_pc204 (by decide +kernel) (by decide +kernel) rfl (by decide +kernel) q_dc204 q_ck204
theorem q_pc205 : Cond.code (q_y 205) (q_b 205) (q_ml 205) (q_rt 205) ∈ q_w0 := List.mem_filter.mpr ⟨List.mem_of_getElem? (i := 922) (by decide +kernel), by decide +kernel⟩
theorem q_dc205 : ∀ e ∈ q_cd205, decode (q_b 205) e.1 = .ok (e.2.2.1, e.2.1) := by decide +kernel
theorem q_ck205 : q_cd205.all (fun e => q_chk 205 e.1 e.2.1 e.2.2.1 e.2.2.2.1 e.2.2.2.2.1 e.2.2.2.2.2) = true := by decide +kernel
theorem q_mok205 : q_mok 205 := q_mk (by decide) q_pc205 (by decide +kernel) (by decide +kernel) rfl (by decide +kernel) q_dc205 q_ck205
theorem q_pc206 : Cond.code (q_y 206) (q_b 206) (q_ml 206) (q_rt 206) ∈ q_w0 := List.mem_filter.mpr ⟨List.mem_of_getElem? (i := 1096) (by decide +kernel), by decide +kernel⟩
theorem q_dc206 : ∀ e ∈ q_cd206, decode (q_b 206) e.1 = .ok (e.2.2.1, e.2.1) := by decide +kernel
theorem q_ck206 : q_cd206.all (fun e => q_chk 206 e.1 e.2.1 e.2.2.1 e.2.2.2.1 e.2.2.2.2.1 e.2.2.2.2.2) = true := by decide +kernel
theorem q_mok206 : q_mok 206 := q_mk (by decide) q_pc206 (by decide +kernel) (by decide +kernel) rfl (by decide +kernel) q_dc206 q_ck206
theorem q_pc207 : Cond.code (q_y 207) (q_b 207) (q_ml 207) (q_rt 207) ∈ q_w0 := List.mem_filter.mpr ⟨List.mem_of_getElem? (i := 1104) (by decide +kernel), by decide +kernel⟩
theorem q_dc207 : ∀ e ∈ q_cd207, decode (q_b 207) e.1 = .ok (e.2.2.1, e.2.1) := by decide +kernel
theorem q_ck207 : q_cd207.all (fun e => q_chk 207 e.1 e.2.1 e.2.2.1 e.2.2.2.1 e.2.2.2.2.1 e.2.2.2.2.2) = true := by decide +kernel
theorem q_mok207 : q_mok 207 := q_mk (by decide) q_pc207 (by decide +kernel) (by decide +kernel) rfl (by decide +kernel) q_dc207 q_ck207
theorem q_pc208 : Cond.code (q_y 208) (q_b 208) (q_ml 208) (q_rt 208) ∈ q_w0 := List.mem_filter.mpr ⟨List.mem_of_getElem? (i := 932) (by decide +kernel), by decide +kernel⟩
theorem q_dc208 : ∀ e ∈ q_cd208, decode (q_b 208) e.1 = .ok (e.2.2.1, e.2.1) := by decide +kernel
theorem q_ck208 : q_cd208.all (fun e => q_chk 208 e.1 e.2.1 e.2.2.1 e.2.2.2.1 e.2.2.2.2.1 e.2.2.2.2.2) = true := by decide +kernel
theorem q_mok208 : q_mok 208 := q_mk (by decide) q_pc208 (by decide +kernel) (by decide +kernel) rfl (by decide +kernel) q_dc208 q_ck208
theorem q_pc209 : Cond.code (q_y 209) (q_b 209) (q_ml 209) (q_rt 209) ∈ q_w0 := List.mem_filter.mpr ⟨List.mem_of_getElem? (i := 828) (by decide +kernel), by decide +kernel⟩
theorem q_dc209 : ∀ e ∈ q_cd209, decode (q_b 209) e.1 = .ok (e.2.2.1, e.2.1) := by decide +kernel
theorem q_ck209 : q_cd209.all (fun e => q_chk 209 e.1 e.2.1 e.2.2.1 e.2.2.2.1 e.2.2.2.2.1 e.2.2.2.2.2) = true := by decide +kernel
theorem q_mok209 : q_mok 209 := q_mk (by decide) q_pc209 (by decide +kernel) (by decide +kernel) rfl (by decide +kernel) q_dc209 q_ck209
