theorem q_pc210 : Cond.code (q_y 210) (q_b 210) (q_ml 210) (q_rt 210) ∈ q_w0 := List.mem_filter.mpr ⟨List.mem_of_getElem? (i := 758) (by decide +kernel), by decide +kernel⟩
theorem q_dc210 : ∀ e ∈ q_cd210, decode (q_b 210) e.1 = .ok (e.2.2.1, e.2.1) := by decide +kernel
theorem q_ck210 : q_cd210.all (fun e => q_chk 210 e.1 e.2.1 e.2.2.1 e.2.2.2.1 e.2.2.2.2.1 e.2.2.2.2.2) = true := by decide +kernel
theorem q_mok210 : q_mok 210 := q_mk (by decide) q_pc210 (by decide +kernel) (by decide +kernel) rfl (by decide +kernel) q_dc210 q_ck210
theorem q_pc211 : Cond.code (q_y 211) (q_b 211) (q_ml 211) (q_rt 211) ∈ q_w0 := List.mem_filter.mpr ⟨List.mem_of_getElem? (i := 754) (by decide +kernel), by decide +kernel⟩
theorem q_dc211 : ∀ e ∈ q_cd211, decode (q_b 211) e.1 = .ok (e.2.2.1, e.2.1) := by decide +kernel
theorem q_ck211 : q_cd211.all (fun e => q_chk 211 e.1 e.2.1 e.2.2.1 e.2.2.2.1 e.2.2.2.2.1 e.2.2.2.2.2) = true := by decide +kernel
theorem q_mok211 : q_mok 211 := q_mk (by decide) q_pc211 (by decide +kernel) (by decide +kernel) rfl (by decide +kernel) q_dc211 q_ck211
theorem q_pc212 : Cond.code (q_y 212) (q_b 212) (q_ml 212) (q_rt 212) ∈ q_w0 := List.mem_filter.mpr ⟨List.mem_of_getElem? (i := 774) (by decide +kernel), by decide +kernel⟩
theorem q_dc212 : ∀ e ∈ q_cd212, decode (q_b 212) e.1 = .ok (e.2.2.1, e.2.1) := by decide +kernel
theorem q_ck212 : q_cd212.all (fun e => q_chk 212 e.1 e.2.1 e.2.2.1 e.2.2.2.1 e.2.2.2.2.1 e.2.2.2.2.2) = true := by decide +kernel
theorem q_mok212 : q_mok 212 := q_mk (by decide) q_pc212 (by decide +kernel) (by decide +kernel) rfl (by decide +kernel) q_dc212 q_ck212
theorem q_pc213 : Cond.code (q_y 213) (q_b 213) (q_ml 213) (q_rt 213) ∈ q_w0 := List.mem_filter.mpr ⟨List.mem_of_getElem? (i := 710) (by decide +kernel), by decide +kernel⟩
theorem q_dc213 : ∀ e ∈ q_cd213, decode (q_b 213) e.1 = .ok (e.2.2.1, e.2.1) := by decide +kernel
theorem q_ck213 : q_cd213.all (fun e => q_chk 213 e.1 e.2.1 e.2.2.1 e.2.2.2.1 e.2.2.2.2.1 e.2.2.2.2.2) = true := by decide +kernel
theorem q_mok213 : q_mok 213 := q_mk (by decide) q_pc213 (by decide +kernel) (by decide +kernel) rfl (by decide +kernel) q_dc213 q_ck213
theorem q_pc214 : Cond.code (q_y 214) (q_b 214) (q_ml 214) (q_rt 214) ∈ q_w0 := List.mem_filter.mpr ⟨List.mem_of_getElem? (i := 568) (by decide +kernel), by decide +kernel⟩
theorem q_dc214 : ∀ e ∈ q_cd214, decode (q_b 214) e.1 = .ok (e.2.2.1, e.2.1) := by decide +kernel
theorem q_ck214 : q_cd214.all (fun e => q_chk 214 e.1 e.2.1 e.2.2.1 e.2.2.2.1 e.2.2.2.2.1 e.2.2.2.2.2) = true := by decide +kernel
theorem q_mok214 : q_mok 214 := q_mk (by decide) q_pc214 (by decide +kernel) (by decide +kernel) rfl (by decide +kernel) q_dc214 q_ck214
theorem q_pc215 : Cond.code (q_y 215) (q_b 215) (q_ml 215) (q_rt 215) ∈ q_w0 := List.mem_filter.mpr ⟨List.mem_of_getElem? (i := 706) (by decide +kernel), by decide +kernel⟩
theorem q_dc215 : ∀ e ∈ q_cd215, decode (q_b 215) e.1 = .ok (e.2.2.1, e.2.1) := by decide +kernel
theorem q_ck215 : q_cd215.all (fun e => q_chk 215 e.1 e.2.1 e.2.2.1 e.2.2.2.1 e.2.2.2.2.1 e.2.2.2.2.2) = true := by decide +kernel
theorem q_mok215 : q_mok 215 := q_mk (by decide) q_pc215 (by decide +kernel) (by decide +kernel) rfl (by decide +kernel) q_dc215 q_ck215
theorem q_pc216 : Cond.code (q_y 216) (q_b 216) (q_ml 216) (q_rt 216) ∈ q_w0 := List.mem_filter.mpr ⟨List.mem_of_getElem? (i := 746) (by decide +kernel), by decide +kernel⟩
theorem q_dc216 : ∀ e ∈ q_cd216, decode (q_b 216) e.1 = .ok (e.2.2.1, e.2.1) := by decide +kernel
theorem q_ck216 : q_cd216.all (fun e => q_chk 216 e.1 e.2.1 e.2.2.1 e.2.2.2.1 e.2.2.2.2.1 e.2.2.2.2.2) = true := by decide +kernel
theorem q_mok216 : q_mok 216 := q_mk (by decide) q_pc216 (by decide +kernel) (by decide +kernel) rfl (by decide +kernel) q_dc216 q_ck216
theorem q_pc217 : Cond.code (q_y 217) (q_b 217) (q_ml 217) (q_rt 217) ∈ q_w0 := List.mem_filter.mpr ⟨List.mem_of_getElem? (i := 724) (by decide +kernel), by decide +kernel⟩
theorem q_dc217 : ∀ e ∈ q_cd217, decode (q_b 217) e.1 = .ok (e.2.2.1, e.2.1) := by decide +kernel
theorem q_ck217 : q_cd217.all (fun e => q_chk 217 e.1 e.2.1 e.2.2.1 e.2.2.2.1 e.2.2.2.2.1 e.2.2.2.2.2) = true := by decide +kernel
theorem q_mok217 : q_mok 217 := q_mk (by decide) q_pc217 (by decide +kernel) (by decide +kernel) rfl (by decide +kernel) q_dc217 q_ck217
theorem q_pc218 : Cond.code (q_y 218) (q_b 218) (q_ml 218) (q_rt 218) ∈ q_w0 := List.mem_filter.mpr ⟨List.mem_of_getElem? (i := 782) (by decide +kernel), by decide +kernel⟩
theorem q_dc218 : ∀ e ∈ q_cd218, decode (q_b 218) e.1 = .ok (e.2.2.1, e.2.1) := by decide +kernel
theorem q_ck218 : q_cd218.all (fun e => q_chk 218 e.1 e.2.1 e.2.2.1 e.2.2.2.1 e.2.2.2.2.1 e.2.2.2.2.2) = true := by decide +kernel
theorem q_mok218 : q_mok 218 := q_mk (by decide) q_pc218 (by decide +kernel) (by decide +kernel) rfl (by decide +kernel) q_dc218 q_ck218
theorem q_pc219 : Cond.code (q_y 219) (q_b 219) (q_ml 219) (q_rt 219) ∈ q_w0 := List.mem_filter.mpr ⟨List.mem_of_getElem? (i := 742) (by decide +kernel), by decide +kernel⟩
theorem q_dc219 : ∀ e ∈ q_cd219, decode (q_b 219) e.1 = .ok (e.2.2.1, e.2.1) := by decide +kernel
theorem q_ck219 : q_cd219.all (fun e => q_chk 219 e.1 e.2.1 e.2.2.1 e.2.2.2.1 e.2.2.2.2.1 e.2.2.2.2.2) = true := by decide +kernel
theorem q_mok219 : q_mok 219 := q_mk (by decide) q_pc219 (by decide +kernel) (by decide +kernel) rfl (by decide +kernel) q_dc219 q_ck219
theorem q_pc220 : Cond.code (q_y 220) (q_b 220) (q_ml 220) (q_rt 220) ∈ q_w0 := List.mem_filter.mpr ⟨List.mem_of_getElem? (i := 714) (by decide +kernel), by decide +kernel⟩
theorem q_dc220 : ∀ e ∈ q_cd220, decode (q_b 220) e.1 = .ok (e.2.2.1, e.2.1) := by decide +kernel
theorem q_ck220 : q_cd220.all (fun e => q_chk 220 e.1 e.2.1 e.2.2.1 e.2.2.2.1 e.2.2.2.2.1 e.2.2.2.2.2) = true := by decide +kernel
theorem q_mok220 : q_mok 220 := q_mk (by decide) q_pc220 (by decide +kernel) (by decide +kernel) rfl (by decide +kernel) q_dc220 q_ck220
theorem q_pc221 : Cond.code (q_y 221) (q_b 221) (q_ml 221) (q_rt 221) ∈ q_w0 := List.mem_filter.mpr ⟨List.mem_of_getElem? (i := 694) (by decide +kernel), by decide +kernel⟩
theorem q_dc221 : ∀ e ∈ q_cd221, decode (q_b 221) e.1 = .ok (e.2.2.1, e.2.1) := by decide +kernel
theorem q_ck221 : q_cd221.all (fun e => q_chk 221 e.1 e.2.1 e.2.2.1 e.2.2.2.1 e.2.2.2.2.1 e.2.2.2.2.2) = true := by decide +kernel
theorem q_mok221 : q_mok 221 := q_mk (by decide) q_pc221 (by decide +kernel) (by decide +kernel) rfl (by decide +kernel) q_dc221 q_ck221
theorem q_pc222 : Cond.code (q_y 222) (q_b 222) (q_ml 222) (q_rt 222) ∈ q_w0 := List.mem_filter.mpr ⟨List.mem_of_getElem? (i := 734) (by decide +kernel), by decide +kernel⟩
theorem q_dc222 : ∀ e ∈ q_cd222, decode (q_b 222) e.1 = .ok (e.2.2.1, e.2.1) := by decide +kernel
theorem q_ck222 : q_cd222.all (fun e => q_chk 222 e.1 e.2.1 e.2.2.1 e.2.2.2.1 e.2.2.2.2.1 e.2.2.2.2.2) = true := by decide +kernel
theorem q_mok222 : q_mok 222 := q_mk (by decide) q_pc222 (by decide +kernel) (by decide +kernel) rfl (by decide +kernel) q_dc222 q_ck222
theorem q_pc223 : Cond.code (q_y 223) (q_b 223) (q_ml 223) (q_rt 223) ∈ q_w0 := List.mem_filter.mpr ⟨List.mem_of_getElem? (i := 750) (by decide +kernel), by decide +kernel⟩
theorem q_dc223 : ∀ e ∈ q_cd223, decode (q_b 223) e.1 = .ok (e.2.2.1, e.2.1) := by decide +kernel
theorem q_ck223 : q_cd223.all (fun e => q_chk 223 e.1 e.2.1 e.2.2.1 e.2.2.2.1 e.2.2.2.2.1 e.2.2.2.2.2) = true := by decide +kernel
theorem q_mok223 : q_mok 223 := q_mk (by decide) q_pc223 (by decide +kernel) (by decide +kernel) rfl (by decide +kernel) q_dc223 q_ck223
theorem q_pc224 : Cond.code (q_y 224) (q_b 224) (q_ml 224) (q_rt 224) ∈ q_w0 := List.mem_filter.mpr ⟨List.mem_of_getElem? (i := 698) (by decide +kernel), by decide +kernel⟩
theorem q_dc224 : ∀ e ∈ q_cd224, decode (q_b 224) e.1 = .ok (e.2.2.1, e.2.1) := by decide +kernel
theorem q_ck224 : q_cd224.all (fun e => q_chk 224 e.1 e.2.1 e.2.2.1 e.2.2.2.1 e.2.2.2.2.1 e.2.2.2.2.2) = true := by decide +kernel
theorem q_mok224 : q_mok 224 := q_mk (by decide) q_pc224 (by decide +kernel) (by decide +kernel) rfl (by decide +kernel) q_dc224 q_ck224
theorem q_pc225 : Cond.code (q_y 225) (q_b 225) (q_ml 225) (q_rt 225) ∈ q_w0 := List.mem_filter.mpr ⟨List.mem_of_getElem? (i := 762) (by decide +kernel), by decide +kernel⟩
theorem q_dc225 : ∀ e ∈ q_cd225, decode (q_b 225) e.1 = .ok (e.2.2.1, e.2.1) := by decide +kernel
theorem q_ck225 : q_cd225.all (fun e => q_chk 225 e.1 e.2.1 e.2.2.1 e.2.2.2.1 e.2.2.2.2.1 e.2.2.2.2.2) = true := by decide +kernel
theorem q_mok225 : q_mok 225 := q_mk (by decide) q_pc225 (by decide +kernel) (by decide +kernel) rfl (by decide +kernel) q_dc225 q_ck225
theorem q_pc226 : Cond.code (q_y 226) (q_b 226) (q_ml 226) (q_rt 226) ∈ q_w0 := List.mem_filter.mpr ⟨List.mem_of_getElem? (i := 766) (by decide +kernel), by decide +kernel⟩
theorem q_dc226 : ∀ e ∈ q_cd226, decode (q_b 226) e.1 = .ok (e.2.2.1, e.2.1) := by decide +kernel
theorem q_ck226 : q_cd226.all (fun e => q_chk 226 e.1 e.2.1 e.2.2.1 e.2.2.2.1 e.2.2.2.2.1 e.2.2.2.2.2) = true := by decide +kernel
theorem q_mok226 : q_mok 226 := q_mk (by decide) q_pc226 (by decide +kernel) (by decide +kernel) rfl (by decide +kernel) q_dc226 q_ck226
theorem q_pc227 : Cond.code (q_y 227) (q_b 227) (q_ml 227) (q_rt 227) ∈ q_w0 := List.mem_filter.mpr ⟨List.mem_of_getElem? (i := 738) (by decide +kernel), by decide +kernel⟩
theorem q_dc227 : ∀ e ∈ q_cd227, decode (q_b 227) e.1 = .ok (e.2.2.1, e.2.1) := by decide +kernel
theorem q_ck227 : q_cd227.all (fun e => q_chk 227 e.1 e.2.1 e.2.2.1 e.2.2.2.1 e.2.2.2.2.1 e.2.2.2.2.2) = true := by decide +kernel
theorem q_mok227 : q_mok 227 := q_mk (by decide) q_pc227 (by decide +kernel) (by decide +kernel) rfl (by decide +kernel) q_dc227 q_ck227
theorem q_pc228 : Cond.code (q_y 228) (q_b 228) (q_ml 228) (q_rt 228) ∈ q_w0 := List.mem_filter.mpr ⟨List.mem_of_getElem? (i := 770) (by decide +kernel), by decide +kernel⟩
theorem q_dc228 : ∀ e ∈ q_cd228, decode (q_b 228) e.1 = .ok (e.2.2.1, e.2.1) := by decide +kernel
theorem q_ck228 : q_cd228.all (fun e => q_chk 228 e.1 e.2.1 e.2.2.1 e.2.2.2.1 e.2.2.2.2.1 e.2.2.2.2.2) = true := by decide +kernel
theorem q_mok228 : q_mok 228 := q_mk (by decide) q_pc228 (by decide +kernel) (by decide +kernel) rfl (by decide +kernel) q_dc228 q_ck228
theorem q_pc229 : Cond.code (q_y 229) (q_b 229) (q_ml 229) (q_rt 229) ∈ q_w0 := List.mem_filter.mpr ⟨List.mem_of_getElem? (i := 730) (by decide +kernel), by decide +kernel⟩
theorem q_dc229 : ∀ e ∈ q_cd229, decode (q_b 229) e.1 = .ok (e.2.2.1, e.2.1) := by decide +kernel
theorem q_ck229 : q_cd229.all (fun e => q_chk 229 e.1 e.2.1 e.2.2.1 e.2.2.2.1 e.2.2.2.2.1 e.2.2.2.2.2) = true := by decide +kernel
theorem q_mok229 : q_mok 229 := q_mk (by decide) q_pc229 (by decide +kernel) (by decide +kernel) rfl (by decide +kernel) q_dc229 q_ck229
theorem q_pc230 : Cond.code (q_y 230) (q_b 230) (q_ml 230) (q_rt 230) ∈ q_w0 := List.mem_filter.mpr ⟨List.mem_of_getElem? (i := 778) (by decide +kernel), by decide +kernel⟩
theorem q_dc230 : ∀ e ∈ q_cd230, decode (q_b 230) e.1 = .ok (e.2.2.1, e.2.1) := by decide +kernel
theorem q_ck230 : q_cd230.all (fun e => q_chk 230 e.1 e.2.1 e.2.2.1 e.2.2.2.1 e.2.2.2.2.1 e.2.2.2.2.2) = true := by decide +kernel
theorem q_mok230 : q_mok 230 := q_mk (by decide) q_pc230 (by decide +kernel) (by decide +kernel) rfl (by decide +kernel) q_dc230 q_ck230
theorem q_pc231 : Cond.code (q_y 231) (q_b 231) (q_ml 231) (q_rt 231) ∈ q_w0 := List.mem_filter.mpr ⟨List.mem_of_getElem? (i := 702) (by decide +kernel), by decide +kernel⟩
theorem q_dc231 : ∀ e ∈ q_cd231, decode (q_b 231) e.1 = .ok (e.2.2.1, e.2.1) := by decide +kernel
theorem q_ck231 : q_cd231.all (fun e => q_chk 231 e.1 e.2.1 e.2.2.1 e.2.2.2.1 e.2.2.2.2.1 e.2.2.2.2.2) = true := by decide +kernel
theorem q_mok231 : q_mok 231 := q_mk (by decide) q_pc231 (by decide +kernel) (by decide +kernel) rfl (by decide +kernel) q_dc231 q_ck231
theorem q_pc232 : Cond.code (q_y 232) (q_b 232) (q_ml 232) (q_rt 232) ∈ q_w0 := List.mem_filter.mpr ⟨List.mem_of_getElem? (i := 632) (by decide +kernel), by decide +kernel⟩
theorem q_dc232 : ∀ e ∈ q_cd232, decode (q_b 232) e.1 = .ok (e.2.2.1, e.2.1) := by decide +kernel
theorem q_ck232 : q_cd232.all (fun e => q_chk 232 e.1 e.2.1 e.2.2.1 e.2.2.2.1 e.2.2.2.2.1 e.2.2.2.2.2) = true := by decide +kernel
theorem q_mok232 : q_mok 232 := q_mk (by decide) q_pc232 (by decide +kernel) (by decide +kernel) rfl (by decide +kernel) q_dc232 q_ck232
theorem q_pc233 : Cond.code (q_y 233) (q_b 233) (q_ml 233) (q_rt 233) ∈ q_w0 := List.mem_filter.mpr ⟨List.mem_of_getElem? (i := 575) (by decide +kernel), by decide +kernel⟩
theorem q_dc233 : ∀ e ∈ q_cd233, decode (q_b 233) e.1 = .ok (e.2.2.1, e.2.1) := by decide +kernel
theorem q_ck233 : q_cd233.all (fun e => q_chk 233 e.1 e.2.1 e.2.2.1 e.2.2.2.1 e.2.2.2.2.1 e.2.2.2.2.2) = true := by decide +kernel
theorem q_mok233 : q_mok 233 := q_mk (by decide) q_pc233 (by decide +kernel) (by decide +kernel) rfl (by decide +kernel) q_dc233 q_ck233
theorem q_pc234 : Cond.code (q_y 234) (q_b 234) (q_ml 234) (q_rt 234) ∈ q_w0 := List.mem_filter.mpr ⟨List.mem_of_getElem? (i := 798) (by decide +kernel), by decide +kernel⟩
theorem q_dc234 : ∀ e ∈ q_cd234, decode (q_b 234) e.1 = .ok (e.2.2.1, e.2.1) := by decide +kernel
theorem q_ck234 : q_cd234.all (fun e => q_chk 234 e.1 e.2.1 e.2.2.1 e.2.2.2.1 e.2.2.2.2.1 e.2.2.2.2.2) = true := by decide +kernel
theorem q_mok234 : q_mok 234 := q_mk (by decide) q_pc234 (by decide +kernel) (by decide +kernel) rfl (by decide +kernel) q_dc234 q_ck234
theorem q_pc235 : Cond.code (q_y 235) (q_b 235) (q_ml 235) (q_rt 235) ∈ q_w0 := List.mem_filter.mpr ⟨List.mem_of_getElem? (i := 1021) (by decide +kernel), by decide +kernel⟩
theorem q_dc235 : ∀ e ∈ q_cd235, decode (q_b 235) e.1 = .ok (e.2.2.1, e.2.1) := by decide +kernel
theorem q_ck235 : q_cd235.all (fun e => q_chk 235 e.1 e.2.1 e.2.2.1 e.2.2.2.1 e.2.2.2.2.1 e.2.2.2.2.2) = true := by decide +kernel
theorem q_mok235 : q_mok 235 := q_mk (by decide) q_pc235 (by decide +kernel) (by decide +kernel) rfl (by decide +kernel) q_dc235 q_ck235
theorem q_pc236 : Cond.code (q_y 236) (q_b 236) (q_ml 236) (q_rt 236) ∈ q_w0 := List.mem_filter.mpr ⟨List.mem_of_getElem? (i := 1033) (by decide +kernel), by decide +kernel⟩
theorem q_dc236 : ∀ e ∈ q_cd236, decode (q_b 236) e.1 = .ok (e.2.2.1, e.2.1) := by decide +kernel
theorem q_ck236 : q_cd236.all (fun e => q_chk 236 e.1 e.2.1 e.2.2.1 e.2.2.2.1 e.2.2.2.2.1 e.2.2.2.2.2) = true := by decide +kernel
theorem q_mok236 : q_mok 236 := q_mk (by decide) q_pc236 (by decide +kernel) (by decide +kernel) rfl (by decide +kernel) q_dc236 q_ck236
theorem q_pc237 : Cond.code (q_y 237) (q_b 237) (q_ml 237) (q_rt 237) ∈ q_w0 := List.mem_filter.mpr ⟨List.mem_of_getElem? (i := 869) (by decide +kernel), by decide +kernel⟩
theorem q_dc237 : ∀ e ∈ q_cd237, decode (q_b 237) e.1 = .ok (e.2.2.1, e.2.1) := by decide +kernel
theorem q_ck237 : q_cd237.all (fun e => q_chk 237 e.1 e.2.1 e.2.2.1 e.2.2.2.1 e.2.2.2.2.1 e.2.2.2.2.2) = true := by decide +kernel
theorem q_mok237 : q_mok 237 := q_mk (by decide) q_pc237 (by decide +kernel) (by decide +kernel) rfl (by decide +kernel) q_dc237 q_ck237
theorem q_pc238 : Cond.code (q_y 238) (q_b 238) (q_ml 238) (q_rt 238) ∈ q_w0 := List.mem_filter.mpr ⟨List.mem_of_getElem? (i := 1070) (by decide +kernel), by decide +kernel⟩
theorem q_dc238 : ∀ e ∈ q_cd238, decode (q_b 238) e.1 = .ok (e.2.2.1, e.2.1) := by decide +kernel
theorem q_ck238 : q_cd238.all (fun e => q_chk 238 e.1 e.2.1 e.2.2.1 e.2.2.2.1 e.2.2.2.2.1 e.2.2.2.2.2) = true := by decide +kernel
theorem q_mok238 : q_mok 238 := q_mk (by decide) q_pc238 (by decide +kernel) (by decide +kernel) rfl (by decide +kernel) q_dc238 q_ck238
theorem q_pc239 : Cond.code (q_y 239) (q_b 239) (q_ml 239) (q_rt 239) ∈ q_w0 := List.mem_filter.mpr ⟨List.mem_of_getElem? (i := 1169) (by decide +kernel), by decide +kernel⟩
theorem q_dc239 : ∀ e ∈ q_cd239, decode (q_b 239) e.1 = .ok (e.2.2.1, e.2.1) := by decide +kernel
theorem q_ck239 : q_cd239.all (fun e => q_chk 239 e.1 e.2.1 e.2.2.1 e.2.2.2.1 e.2.2.2.2.1 e.2.2.2.2.2) = true := by decide +kernel
theorem q_mok239 : q_mok 239 := q_mk (by decide) q_pc239 (by decide +kernel) (by decide +kernel) rfl (by decide +kernel) q_dc239 q_ck239
theorem q_pc240 : Cond.code (q_y 240) (q_b 240) (q_ml 240) (q_rt 240) ∈ q_w0 := List.mem_filter.mpr ⟨List.mem_of_getElem? (i := 1519) (by decide +kernel), by decide +kernel⟩
theorem q_dc240 : ∀ e ∈ q_cd240, decode (q_b 240) e.1 = .ok (e.2.2.1, e.2.1) := by decide +kernel
theorem q_ck240 : q_cd240.all (fun e => q_chk 240 e.1 e.2.1 e.2.2.1 e.2.2.2.1 e.2.2.2.2.1 e.2.2.2.2.2) = true := by decide +kernel
theorem q_mok240 : q_mok 240 := q_mk (by decide) q_pc240 (by decide +kernel) (by decide +kernel) rfl (by decide +kernel) q_dc240 q_ck240
theorem q_pc241 : Cond.code (q_y 241) (q_b 241) (q_ml 241) (q_rt 241) ∈ q_w0 := List.mem_filter.mpr ⟨List.mem_of_getElem? (i := 1629) (by decide +kernel), by decide +kernel⟩
theorem q_dc241 : ∀ e ∈ q_cd241, decode (q_b 241) e.1 = .ok (e.2.2.1, e.2.1) := by decide +kernel
theorem q_ck241 : q_cd241.all (fun e => q_chk 241 e.1 e.2.1 e.2.2.1 e.2.2.2.1 e.2.2.2.2.1 e.2.2.2.2.2) = true := by decide +kernel
theorem q_mok241 : q_mok 241 := q_mk (by decide) q_pc241 (by decide +kernel) (by decide +kernel) rfl (by decide +kernel) q_dc241 q_ck241
theorem q_pc242 : Cond.code (q_y 242) (q_b 242) (q_ml 242) (q_rt 242) ∈ q_w0 := List.mem_filter.mpr ⟨List.mem_of_getElem? (i := 1574) (by decide +kernel), by decide +kernel⟩
theorem q_dc242 : ∀ e ∈ q_cd242, decode (q_b 242) e.1 = .ok (e.2.2.1, e.2.1) := by decide +kernel
theorem q_ck242 : q_cd242.all (fun e => q_chk 242 e.1 e.2.1 e.2.2.1 e.2.2.2.1 e.2.2.2.2.1 e.2.2.2.2.2) = true := by decide +kernel
theorem q_mok242 : q_mok 242 := q_mk (by decide) q_pc242 (by decide +kernel) (by decide +kernel) rfl (by decide +kernel) q_dc242 q_ck242
theorem q_pc243 : Cond.code (q_y 243) (q_b 243) (q_ml 243) (q_rt 243) ∈ q_w0 := List.mem_filter.mpr ⟨List.mem_of_getElem? (i := 1819) (by decide +kernel), by decide +kernel⟩
theorem q_dc243 : ∀ e ∈ q_cd243, decode (q_b 243) e.1 = .ok (e.2.2.1, e.2.1) := by decide +kernel
theorem q_ck243 : q_cd243.all (fun e => q_chk 243 e.1 e.2.1 e.2.2.1 e.2.2.2.1 e.2.2.2.2.1 e.2.2.2.2.2) = true := by decide +kernel
theorem q_mok243 : q_mok 243 := q_mk (by decide) q_pc243 (by decide +kernel) (by decide +kernel) rfl (by decide +kernel) q_dc243 q_ck243
theorem q_pc244 : Cond.code (q_y 244) (q_b 244) (q_ml 244) (q_rt 244) ∈ q_w0 := List.mem_filter.mpr ⟨List.mem_of_getElem? (i := 1625) (by decide +kernel), by decide +kernel⟩
theorem q_dc244 : ∀ e ∈ q_cd244, decode (q_b 244) e.1 = .ok (e.2.2.1, e.2.1) := by decide +kernel
theorem q_ck244 : q_cd244.all (fun e => q_chk 244 e.1 e.2.1 e.2.2.1 e.2.2.2.1 e.2.2.2.2.1 e.2.2.2.2.2) = true := by decide +kernel
theorem q_mok244 : q_mok 244 := q_mk (by decide) q_pc244 (by decide +kernel) (by decide +kernel) rfl (by decide +kernel) q_dc244 q_ck244
theorem q_pc245 : Cond.code (q_y 245) (q_b 245) (q_ml 245) (q_rt 245) ∈ q_w0 := List.mem_filter.mpr ⟨List.mem_of_getElem? (i := 1550) (by decide +kernel), by decide +kernel⟩
theorem q_dc245 : ∀ e ∈ q_cd245, decode (q_b 245) e.1 = .ok (e.2.2.1, e.2.1) := by decide +kernel
theorem q_ck245 : q_cd245.all (fun e => q_chk 245 e.1 e.2.1 e.2.2.1 e.2.2.2.1 e.2.2.2.2.1 e.2.2.2.2.2) = true := by decide +kernel
theorem q_mok245 : q_mok 245 := q_mk (by decide) q_pc245 (by decide +kernel) (by decide +kernel) rfl (by decide +kernel) q_dc245 q_ck245
theorem q_pc246 : Cond.code (q_y 246) (q_b 246) (q_ml 246) (q_rt 246) ∈ q_w0 := List.mem_filter.mpr ⟨List.mem_of_getElem? (i := 1570) (by decide +kernel), by decide +kernel⟩
theorem q_dc246 : ∀ e ∈ q_cd246, decode (q_b 246) e.1 = .ok (e.2.2.1, e.2.1) := by decide +kernel
theorem q_ck246 : q_cd246.all (fun e => q_chk 246 e.1 e.2.1 e.2.2.1 e.2.2.2.1 e.2.2.2.2.1 e.2.2.2.2.2) = true := by decide +kernel
theorem q_mok246 : q_mok 246 := q_mk (by decide) q_pc246 (by decide +kernel) (by decide +kernel) rfl (by decide +kernel) q_dc246 q_ck246
theorem q_pc247 : Cond.code (q_y 247) (q_b 247) (q_ml 247) (q_rt 247) ∈ q_w0 := List.mem_filter.mpr ⟨List.mem_of_getElem? (i := 1691) (by decide +kernel), by decide +kernel⟩
theorem q_dc247 : ∀ e ∈ q_cd247, decode (q_b 247) e.1 = .ok (e.2.2.1, e.2.1) := by decide +kernel
theorem q_ck247 : q_cd247.all (fun e => q_chk 247 e.1 e.2.1 e.2.2.1 e.2.2.2.1 e.2.2.2.2.1 e.2.2.2.2.2) = true := by decide +kernel
theorem q_mok247 : q_mok 247 := q_mk (by decide) q_pc247 (by decide +kernel) (by decide +kernel) rfl (by decide +kernel) q_dc247 q_ck247
theorem q_pc248 : Cond.code (q_y 248) (q_b 248) (q_ml 248) (q_rt 248) ∈ q_w0 := List.mem_filter.mpr ⟨List.mem_of_getElem? (i := 1511) (by decide +kernel), by decide +kernel⟩
theorem q_dc248 : ∀ e ∈ q_cd248, decode (q_b 248) e.1 = .ok (e.2.2.1, e.2.1) := by decide +kernel
theorem q_ck248 : q_cd248.all (fun e => q_chk 248 e.1 e.2.1 e.2.2.1 e.2.2.2.1 e.2.2.2.2.1 e.2.2.2.2.2) = true := by decide +kernel
theorem q_mok248 : q_mok 248 := q_mk (by decide) q_pc248 (by decide +kernel) (by decide +kernel) rfl (by decide +kernel) q_dc248 q_ck248
theorem q_pc249 : Cond.code (q_y 249) (q_b 249) (q_ml 249) (q_rt 249) ∈ q_w0 := List.mem_filter.mpr ⟨List.mem_of_getElem? (i := 1847) (by decide +kernel), by decide +kernel⟩
theorem q_dc249 : ∀ e ∈ q_cd249, decode (q_b 249) e.1 = .ok (e.2.2.1, e.2.1) := by decide +kernel
theorem q_ck249 : q_cd249.all (fun e => q_chk 249 e.1 e.2.1 e.2.2.1 e.2.2.2.1 e.2.2.2.2.1 e.2.2.2.2.2) = true := by decide +kernel
theorem q_mok249 : q_mok 249 := q_mk (by decide) q_pc249 (by decide +kernel) (by decide +kernel) rfl (by decide +kernel) q_dc249 q_ck249
theorem q_pc250 : Cond.code (q_y 250) (q_b 250) (q_ml 250) (q_rt 250) ∈ q_w0 := List.mem_filter.mpr ⟨List.mem_of_getElem? (i := 1601) (by decide +kernel), by decide +kernel⟩
theorem q_dc250 : ∀ e ∈ q_cd250, decode (q_b 250) e.1 = .ok (e.2.2.1, e.2.1) := by decide +kernel
theorem q_ck250 : q_cd250.all (fun e => q_chk 250 e.1 e.2.1 e.2.2.1 e.2.2.2.1 e.2.2.2.2.1 e.2.2.2.2.2) = true := by decide +kernel
theorem q_mok250 : q_mok 250 := q_mk (by decide) q_pc250 (by decide +kernel) (by decide +kernel) rfl (by decide +kernel) q_dc250 q_ck250
theorem q_pc251 : Cond.code (q_y 251) (q_b 251) (q_ml 251) (q_rt 251) ∈ q_w0 := List.mem_filter.mpr ⟨List.mem_of_getElem? (i := 1843) (by decide +kernel), by decide +kernel⟩
theorem q_dc251 : ∀ e ∈ q_cd251, decode (q_b 251) e.1 = .ok (e.2.2.1, e.2.1) := by decide +kernel
theorem q_ck251 : q_cd251.all (fun e => q_chk 251 e.1 e.2.1 e.2.2.1 e.2.2.2.1 e.2.2.2.2.1 e.2.2.2.2.2) = true := by decide +kernel
theorem q_mok251 : q_mok 251 := q_mk (by decide) q_pc251 (by decide +kernel) (by decide +kernel) rfl (by decide +kernel) q_dc251 q_ck251
theorem q_pc252 : Cond.code (q_y 252) (q_b 252) (q_ml 252) (q_rt 252) ∈ q_w0 := List.mem_filter.mpr ⟨List.mem_of_getElem? (i := 1582) (by decide +kernel), by decide +kernel⟩
theorem q_dc252 : ∀ e ∈ q_cd252, decode (q_b 252) e.1 = .ok (e.2.2.1, e.2.1) := by decide +kernel
theorem q_ck252 : q_cd252.all (fun e => q_chk 252 e.1 e.2.1 e.2.2.1 e.2.2.2.1 e.2.2.2.2.1 e.2.2.2.2.2) = true := by decide +kernel
theorem q_mok252 : q_mok 252 := q_mk (by decide) q_pc252 (by decide +kernel) (by decide +kernel) rfl (by decide +kernel) q_dc252 q_ck252
theorem q_pc253 : Cond.code (q_y 253) (q_b 253) (q_ml 253) (q_rt 253) ∈ q_w0 := List.mem_filter.mpr ⟨List.mem_of_getElem? (i := 1484) (by decide +kernel), by decide +kernel⟩
theorem q_dc253 : ∀ e ∈ q_cd253, decode (q_b 253) e.1 = .ok (e.2.2.1, e.2.1) := by decide +kernel
theorem q_ck253 : q_cd253.all (fun e => q_chk 253 e.1 e.2.1 e.2.2.1 e.2.2.2.1 e.2.2.2.2.1 e.2.2.2.2.2) = true := by decide +kernel
theorem q_mok253 : q_mok 253 := q_mk (by decide) q_pc253 (by decide +kernel) (by decide +kernel) rfl (by decide +kernel) q_dc253 q_ck253
theorem q_pc254 : Cond.code (q_y 254) (q_b 254) (q_ml 254) (q_rt 254) ∈ q_w0 := List.mem_filter.mpr ⟨List.mem_of_getElem? (i := 1499) (by decide +kernel), by decide +kernel⟩
theorem q_dc254 : ∀ e ∈ q_cd254, decode (q_b 254) e.1 = .ok (e.2.2.1, e.2.1) := by decide +kernel
theorem q_ck254 : q_cd254.all (fun e => q_chk 254 e.1 e.2.1 e.2.2.1 e.2.2.2.1 e.2.2.2.2.1 e.2.2.2.2.2) = true := by decide +kernel
theorem q_mok254 : q_mok 254 := q_mk (by decide) q_pc254 (by decide +kernel) (by decide +kernel) rfl (by decide +kernel) q_dc254 q_ck254
theorem q_pc255 : Cond.code (q_y 255) (q_b 255) (q_ml 255) (q_rt 255) ∈ q_w0 := List.mem_filter.mpr ⟨List.mem_of_getElem? (i := 1463) (by decide +kernel), by decide +kernel⟩
theorem q_dc255 : ∀ e ∈ q_cd255, decode (q_b 255) e.1 = .ok (e.2.2.1, e.2.1) := by decide +kernel
theorem q_ck255 : q_cd255.all (fun e => q_chk 255 e.1 e.2.1 e.2.2.1 e.2.2.2.1 e.2.2.2.2.1 e.2.2.2.2.2) = true := by decide +kernel
theorem q_mok255 : q_mok 255 := q_mk (by decide) q_pc255 (by decide +kernel) (by decide +kernel) rfl (by decide +kernel) q_dc255 q_ck255
theorem q_pc256 : Cond.code (q_y 256) (q_b 256) (q_ml 256) (q_rt 256) ∈ q_w0 := List.mem_filter.mpr ⟨List.mem_of_getElem? (i := 1460) (by decide +kernel), by decide +kernel⟩
theorem q_dc256 : ∀ e ∈ q_cd256, decode (q_b 256) e.1 = .ok (e.2.2.1, e.2.1) := by decide +kernel
theorem q_ck256 : q_cd256.all (fun e => q_chk 256 e.1 e.2.1 e.2.2.1 e.2.2.2.1 e.2.2.2.2.1 e.2.2.2.2.2) = true := by decide +kernel
theorem q_mok256 : q_mok 256 := q_mk (by decide) q_pc256 (by decide +kernel) (by decide +kernel) rfl (by decide +kernel) q_dc256 q_ck256
theorem q_pc257 : Cond.code (q_y 257) (q_b 257) (q_ml 257) (q_rt 257) ∈ q_w0 := List.mem_filter.mpr ⟨List.mem_of_getElem? (i := 1487) (by decide +kernel), by decide +kernel⟩
theorem q_dc257 : ∀ e ∈ q_cd257, decode (q_b 257) e.1 = .ok (e.2.2.1, e.2.1) := by decide +kernel
theorem q_ck257 : q_cd257.all (fun e => q_chk 257 e.1 e.2.1 e.2.2.1 e.2.2.2.1 e.2.2.2.2.1 e.2.2.2.2.2) = true := by decide +kernel
theorem q_mok257 : q_mok 257 := q_mk (by decide) q_pc257 (by decide +kernel) (by decide +kernel) rfl (by decide +kernel) q_dc257 q_ck257
theorem q_pc258 : Cond.code (q_y 258) (q_b 258) (q_ml 258) (q_rt 258) ∈ q_w0 := List.mem_filter.mpr ⟨List.mem_of_getElem? (i := 1562) (by decide +kernel), by decide +kernel⟩
theorem q_dc258 : ∀ e ∈ q_cd258, decode (q_b 258) e.1 = .ok (e.2.2.1, e.2.1) := by decide +kernel
theorem q_ck258 : q_cd258.all (fun e => q_chk 258 e.1 e.2.1 e.2.2.1 e.2.2.2.1 e.2.2.2.2.1 e.2.2.2.2.2) = true := by decide +kernel
theorem q_mok258 : q_mok 258 := q_mk (by decide) q_pc258 (by decide +kernel) (by decide +kernel) rfl (by decide +kernel) q_dc258 q_ck258
theorem q_pc259 : Cond.code (q_y 259) (q_b 259) (q_ml 259) (q_rt 259) ∈ q_w0 := List.mem_filter.mpr ⟨List.mem_of_getElem? (i := 1503) (by decide +kernel), by decide +kernel⟩
theorem q_dc259 : ∀ e ∈ q_cd259, decode (q_b 259) e.1 = .ok (e.2.2.1, e.2.1) := by decide +kernel
theorem q_ck259 : q_cd259.all (fun e => q_chk 259 e.1 e.2.1 e.2.2.1 e.2.2.2.1 e.2.2.2.2.1 e.2.2.2.2.2) = true := by decide +kernel
theorem q_mok259 : q_mok 259 := q_mk (by decide) q_pc259 (by decide +kernel) (by decide +kernel) rfl (by decide +kernel) q_dc259 q_ck259
theorem q_pc260 : Cond.code (q_y 260) (q_b 260) (q_ml 260) (q_rt 260) ∈ q_w0 := List.mem_filter.mpr ⟨List.mem_of_getElem? (i := 1839) (by decide +kernel), by decide +kernel⟩
theorem q_dc260 : ∀ e ∈ q_cd260, decode (q_b 260) e.1 = .ok (e.2.2.1, e.2.1) := by decide +kernel
theorem q_ck260 : q_cd260.all (fun e => q_chk 260 e.1 e.2.1 e.2.2.1 e.2.2.2.1 e.2.2.2.2.1 e.2.2.2.2.2) = true := by decide +kernel
theorem q_mok260 : q_mok 260 := q_mk (by decide) q_pc260 (by decide +kernel) (by decide +kernel) rfl (by decide +kernel) q_dc260 q_ck260
theorem q_pc261 : Cond.code (q_y 261) (q_b 261) (q_ml 261) (q_rt 261) ∈ q_w0 := List.mem_filter.mpr ⟨List.mem_of_getElem? (i := 1827) (by decide +kernel), by decide +kernel⟩
theorem q_dc261 : ∀ e ∈ q_cd261, decode (q_b 261) e.1 = .ok (e.2.2.1, e.2.1) := by decide +kernel
theorem q_ck261 : q_cd261.all (fun e => q_chk 261 e.1 e.2.1 e.2.2.1 e.2.2.2.1 e.2.2.2.2.1 e.2.2.2.2.2) = true := by decide +kernel
theorem q_mok261 : q_mok 261 := q_mk (by decide) q_pc261 (by decide +kernel) (by decide +kernel) rfl (by decide +kernel) q_dc261 q_ck261
theorem q_pc262 : Cond.code (q_y 262) (q_b 262) (q_ml 262) (q_rt 262) ∈ q_w0 := List.mem_filter.mpr ⟨List.mem_of_getElem? (i := 1507) (by decide +kernel), by decide +kernel⟩
theorem q_dc262 : ∀ e ∈ q_cd262, decode (q_b 262) e.1 = .ok (e.2.2.1, e.2.1) := by decide +kernel
theorem q_ck262 : q_cd262.all (fun e => q_chk 262 e.1 e.2.1 e.2.2.1 e.2.2.2.1 e.2.2.2.2.1 e.2.2.2.2.2) = true := by decide +kernel
theorem q_mok262 : q_mok 262 := q_mk (by decide) q_pc262 (by decide +kernel) (by decide +kernel) rfl (by decide +kernel) q_dc262 q_ck262
theorem q_pc263 : Cond.code (q_y 263) (q_b 263) (q_ml 263) (q_rt 263) ∈ q_w0 := List.mem_filter.mpr ⟨List.mem_of_getElem? (i := 1523) (by decide +kernel), by decide +kernel⟩
theorem q_dc263 : ∀ e ∈ q_cd263, decode (q_b 263) e.1 = .ok (e.2.2.1, e.2.1) := by decide +kernel
theorem q_ck263 : q_cd263.all (fun e => q_chk 263 e.1 e.2.1 e.2.2.1 e.2.2.2.1 e.2.2.2.2.1 e.2.2.2.2.2) = true := by decide +kernel
theorem q_mok263 : q_mok 263 := q_mk (by decide) q_pc263 (by decide +kernel) (by decide +kernel) rfl (by decide +kernel) q_dc263 q_ck263
theorem q_pc264 : Cond.code (q_y 264) (q_b 264) (q_ml 264) (q_rt 264) ∈ q_w0 := List.mem_filter.mpr ⟨List.mem_of_getElem? (i := 1515) (by decide +kernel), by decide +kernel⟩
theorem q_dc264 : ∀ e ∈ q_cd264, decode (q_b 264) e.1 = .ok (e.2.2.1, e.2.1) := by decide +kernel
theorem q_ck264 : q_cd264.all (fun e => q_chk 264 e.1 e.2.1 e.2.2.1 e.2.2.2.1 e.2.2.2.2.1 e.2.2.2.2.2) = true := by decide +kernel
theorem q_mok264 : q_mok 264 := q_mk (by decide) q_pc264 (by decide +kernel) (by decide +kernel) rfl (by decide +kernel) q_dc264 q_ck264
theorem q_pc265 : Cond.code (q_y 265) (q_b 265) (q_ml 265) (q_rt 265) ∈ q_w0 := List.mem_filter.mpr ⟨List.mem_of_getElem? (i := 1554) (by decide +kernel), by decide +kernel⟩
theorem q_dc265 : ∀ e ∈ q_cd265, decode (q_b 265) e.1 = .ok (e.2.2.1, e.2.1) := by decide +kernel
theorem q_ck265 : q_cd265.all (fun e => q_chk 265 e.1 e.2.1 e.2.2.1 e.2.2.2.1 e.2.2.2.2.1 e.2.2.2.2.2) = true := by decide +kernel
theorem q_mok265 : q_mok 265 := q_mk (by decide) q_pc265 (by decide +kernel) (by decide +kernel) rfl (by decide +kernel) q_dc265 q_ck265
theorem q_pc266 : Cond.code (q_y 266) (q_b 266) (q_ml 266) (q_rt 266) ∈ q_w0 := List.mem_filter.mpr ⟨List.mem_of_getElem? (i := 1578) (by decide +kernel), by decide +kernel⟩
theorem q_dc266 : ∀ e ∈ q_cd266, decode (q_b 266) e.1 = .ok (e.2.2.1, e.2.1) := by decide +kernel
theorem q_ck266 : q_cd266.all (fun e => q_chk 266 e.1 e.2.1 e.2.2.1 e.2.2.2.1 e.2.2.2.2.1 e.2.2.2.2.2) = true := by decide +kernel
theorem q_mok266 : q_mok 266 := q_mk (by decide) q_pc266 (by decide +kernel) (by decide +kernel) rfl (by decide +kernel) q_dc266 q_ck266
theorem q_pc267 : Cond.code (q_y 267) (q_b 267) (q_ml 267) (q_rt 267) ∈ q_w0 := List.mem_filter.mpr ⟨List.mem_of_getElem? (i := 1531) (by decide +kernel), by decide +kernel⟩
theorem q_dc267 : ∀ e ∈ q_cd267, decode (q_b 267) e.1 = .ok (e.2.2.1, e.2.1) := by decide +kernel
theorem q_ck267 : q_cd267.all (fun e => q_chk 267 e.1 e.2.1 e.2.2.1 e.2.2.2.1 e.2.2.2.2.1 e.2.2.2.2.2) = true := by decide +kernel
theorem q_mok267 : q_mok 267 := q_mk (by decide) q_pc267 (by decide +kernel) (by decide +kernel) rfl (by decide +kernel) q_dc267 q_ck267
theorem q_pc268 : Cond.code (q_y 268) (q_b 268) (q_ml 268) (q_rt 268) ∈ q_w0 := List.mem_filter.mpr ⟨List.mem_of_getElem? (i := 1527) (by decide +kernel), by decide +kernel⟩
theorem q_dc268 : ∀ e ∈ q_cd268, decode (q_b 268) e.1 = .ok (e.2.2.1, e.2.1) := by decide +kernel
theorem q_ck268 : q_cd268.all (fun e => q_chk 268 e.1 e.2.1 e.2.2.1 e.2.2.2.1 e.2.2.2.2.1 e.2.2.2.2.2) = true := by decide +kernel
theorem q_mok268 : q_mok 268 := q_mk (by decide) q_pc268 (by decide +kernel) (by decide +kernel) rfl (by decide +kernel) q_dc268 q_ck268
theorem q_pc269 : Cond.code (q_y 269) (q_b 269) (q_ml 269) (q_rt 269) ∈ q_w0 := List.mem_filter.mpr ⟨List.mem_of_getElem? (i := 1495) (by decide +kernel), by decide +kernel⟩
theorem q_dc269 : ∀ e ∈ q_cd269, decode (q_b 269) e.1 = .ok (e.2.2.1, e.2.1) := by decide +kernel
theorem q_ck269 : q_cd269.all (fun e => q_chk 269 e.1 e.2.1 e.2.2.1 e.2.2.2.1 e.2.2.2.2.1 e.2.2.2.2.2) = true := by decide +kernel
theorem q_mok269 : q_mok 269 := q_mk (by decide) q_pc269 (by decide +kernel) (by decide +kernel) rfl (by decide +kernel) q_dc269 q_ck269
theorem q_pc270 : Cond.code (q_y 270) (q_b 270) (q_ml 270) (q_rt 270) ∈ q_w0 := List.mem_filter.mpr ⟨List.mem_of_getElem? (i := 1546) (by decide +kernel), by decide +kernel⟩
theorem q_dc270 : ∀ e ∈ q_cd270, decode (q_b 270) e.1 = .ok (e.2.2.1, e.2.1) := by decide +kernel
theorem q_ck270 : q_cd270.all (fun e => q_chk 270 e.1 e.2.1 e.2.2.1 e.2.2.2.1 e.2.2.2.2.1 e.2.2.2.2.2) = true := by decide +kernel
theorem q_mok270 : q_mok 270 := q_mk (by decide) q_pc270 (by decide +kernel) (by decide +kernel) rfl (by decide +kernel) q_dc270 q_ck270
theorem q_pc271 : Cond.code (q_y 271) (q_b 271) (q_ml 271) (q_rt 271) ∈ q_w0 := List.mem_filter.mpr ⟨List.mem_of_getElem? (i := 1538) (by decide +kernel), by decide +kernel⟩
theorem q_dc271 : ∀ e ∈ q_cd271, decode (q_b 271) e.1 = .ok (e.2.2.1, e.2.1) := by decide +kernel
theorem q_ck271 : q_cd271.all (fun e => q_chk 271 e.1 e.2.1 e.2.2.1 e.2.2.2.1 e.2.2.2.2.1 e.2.2.2.2.2) = true := by decide +kernel
theorem q_mok271 : q_mok 271 := q_mk (by decide) q_pc271 (by decide +kernel) (by decide +kernel) rfl (by decide +kernel) q_dc271 q_ck271
theorem q_pc272 : Cond.code (q_y 272) (q_b 272) (q_ml 272) (q_rt 272) ∈ q_w0 := List.mem_filter.mpr ⟨List.mem_of_getElem? (i := 1771) (by decide +kernel), by decide +kernel⟩
theorem q_dc272 : ∀ e ∈ q_cd272, decode (q_b 272) e.1 = .ok (e.2.2.1, e.2.1) := by decide +kernel
theorem q_ck272 : q_cd272.all (fun e => q_chk 272 e.1 e.2.1 e.2.2.1 e.2.2.2.1 e.2.2.2.2.1 e.2.2.2.2.2) = true := by decide +kernel
theorem q_mok272 : q_mok 272 := q_mk (by decide) q_pc272 (by decide +kernel) (by decide +kernel) rfl (by decide +kernel) q_dc272 q_ck272
theorem q_pc273 : Cond.code (q_y 273) (q_b 273) (q_ml 273) (q_rt 273) ∈ q_w0 := List.mem_filter.mpr ⟨List.mem_of_getElem? (i := 1715) (by decide +kernel), by decide +kernel⟩
theorem q_dc273 : ∀ e ∈ q_cd273, decode (q_b 273) e.1 = .ok (e.2.2.1, e.2.1) := by decide +kernel
theorem q_ck273 : q_cd273.all (fun e => q_chk 273 e.1 e.2.1 e.2.2.1 e.2.2.2.1 e.2.2.2.2.1 e.2.2.2.2.2) = true := by decide +kernel
theorem q_mok273 : q_mok 273 := q_mk (by decide) q_pc273 (by decide +kernel) (by decide +kernel) rfl (by decide +kernel) q_dc273 q_ck273
theorem q_pc274 : Cond.code (q_y 274) (q_b 274) (q_ml 274) (q_rt 274) ∈ q_w0 := List.mem_filter.mpr ⟨List.mem_of_getElem? (i := 1632) (by decide +kernel), by decide +kernel⟩
theorem q_dc274 : ∀ e ∈ q_cd274, decode (q_b 274) e.1 = .ok (e.2.2.1, e.2.1) := by decide +kernel
theorem q_ck274 : q_cd274.all (fun e => q_chk 274 e.1 e.2.1 e.2.2.1 e.2.2.2.1 e.2.2.2.2.1 e.2.2.2.2.2) = true := by decide +kernel
theorem q_mok274 : q_mok 274 := q_mk (by decide) q_pc274 (by decide +kernel) (by decide +kernel) rfl (by decide +kernel) q_dc274 q_ck274
theorem q_pc275 : Cond.code (q_y 275) (q_b 275) (q_ml 275) (q_rt 275) ∈ q_w0 := List.mem_filter.mpr ⟨List.mem_of_getElem? (i := 1558) (by decide +kernel), by decide +kernel⟩
theorem q_dc275 : ∀ e ∈ q_cd275, decode (q_b 275) e.1 = .ok (e.2.2.1, e.2.1) := by decide +kernel
theorem q_ck275 : q_cd275.all (fun e => q_chk 275 e.1 e.2.1 e.2.2.1 e.2.2.2.1 e.2.2.2.2.1 e.2.2.2.2.2) = true := by decide +kernel
theorem q_mok275 : q_mok 275 := q_mk (by decide) q_pc275 (by decide +kernel) (by decide +kernel) rfl (by decide +kernel) q_dc275 q_ck275
theorem q_pc276 : Cond.code (q_y 276) (q_b 276) (q_ml 276) (q_rt 276) ∈ q_w0 := List.mem_filter.mpr ⟨List.mem_of_getElem? (i := 1542) (by decide +kernel), by decide +kernel⟩
theorem q_dc276 : ∀ e ∈ q_cd276, decode (q_b 276) e.1 = .ok (e.2.2.1, e.2.1) := by decide +kernel
theorem q_ck276 : q_cd276.all (fun e => q_chk 276 e.1 e.2.1 e.2.2.1 e.2.2.2.1 e.2.2.2.2.1 e.2.2.2.2.2) = true := by decide +kernel
theorem q_mok276 : q_mok 276 := q_mk (by decide) q_pc276 (by decide +kernel) (by decide +kernel) rfl (by decide +kernel) q_dc276 q_ck276
theorem q_pc277 : Cond.code (q_y 277) (q_b 277) (q_ml 277) (q_rt 277) ∈ q_w0 := List.mem_filter.mpr ⟨List.mem_of_getElem? (i := 1783) (by decide +kernel), by decide +kernel⟩
theorem q_dc277 : ∀ e ∈ q_cd277, decode (q_b 277) e.1 = .ok (e.2.2.1, e.2.1) := by decide +kernel
theorem q_ck277 : q_cd277.all (fun e => q_chk 277 e.1 e.2.1 e.2.2.1 e.2.2.2.1 e.2.2.2.2.1 e.2.2.2.2.2) = true := by decide +kernel
theorem q_mok277 : q_mok 277 := q_mk (by decide) q_pc277 (by decide +kernel) (by decide +kernel) rfl (by decide +kernel) q_dc277 q_ck277
theorem q_pc278 : Cond.code (q_y 278) (q_b 278) (q_ml 278) (q_rt 278) ∈ q_w0 := List.mem_filter.mpr ⟨List.mem_of_getElem? (i := 1566) (by decide +kernel), by decide +kernel⟩
theorem q_dc278 : ∀ e ∈ q_cd278, decode (q_b 278) e.1 = .ok (e.2.2.1, e.2.1) := by decide +kernel
theorem q_ck278 : q_cd278.all (fun e => q_chk 278 e.1 e.2.1 e.2.2.1 e.2.2.2.1 e.2.2.2.2.1 e.2.2.2.2.2) = true := by decide +kernel
theorem q_mok278 : q_mok 278 := q_mk (by decide) q_pc278 (by decide +kernel) (by decide +kernel) rfl (by decide +kernel) q_dc278 q_ck278
theorem q_pc279 : Cond.code (q_y 279) (q_b 279) (q_ml 279) (q_rt 279) ∈ q_w0 := List.mem_filter.mpr ⟨List.mem_of_getElem? (i := 1077) (by decide +kernel), by decide +kernel⟩
theorem q_dc279 : ∀ e ∈ q_cd279, decode (q_b 279) e.1 = .ok (e.2.2.1, e.2.1) := by decide +kernel
theorem q_ck279 : q_cd279.all (fun e => q_chk 279 e.1 e.2.1 e.2.2.1 e.2.2.2.1 e.2.2.2.2.1 e.2.2.2.2.2) = true := by decide +kernel
theorem q_mok279 : q_mok 279 := q_mk (by decide) q_pc279 (by decide +kernel) (by decide +kernel) rfl (by decide +kernel) q_dc279 q_ck279
theorem q_pc280 : Cond.code (q_y 280) (q_b 280) (q_ml 280) (q_rt 280) ∈ q_w0 := List.mem_filter.mpr ⟨List.mem_of_getElem? (i := 902) (by decide +kernel), by decide +kernel⟩
theorem q_dc280 : ∀ e ∈ q_cd280, decode (q_b 280) e.1 = .ok (e.2.2.1, e.2.1) := by decide +kernel
theorem q_ck280 : q_cd280.all (fun e => q_chk 280 e.1 e.2.1 e.2.2.1 e.2.2.2.1 e.2.2.2.2.1 e.2.2.2.2.2) = true := by decide +kernel
theorem q_mok280 : q_mok 280 := q_mk (by decide) q_pc280 (by decide +kernel) (by decide +kernel) rfl (by decide +kernel) q_dc280 q_ck280
