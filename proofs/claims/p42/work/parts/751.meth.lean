/-! ===== method by method: the bytes decode to the table's instructions, the links are what they say ===== -/
theorem q_mk {i : Nat} {cd : List q_I} (hi : i < q_nM) (hc : Cond.code (q_y i) (q_b i) (q_ml i) (q_rt i) ∈ q_w0) (hpl : plainFor (q_y i) = true) (hch : q_chn cd = true) (hcd : q_code i = cd) (hhd : (match cd with | [] => false | e :: _ => Nat.beq e.1 0) = true) (hdc : ∀ e ∈ cd, decode (q_b i) e.1 = .ok (e.2.2.1, e.2.1)) (hck : cd.all (fun e => q_chk i e.1 e.2.1 e.2.2.1 e.2.2.2.1 e.2.2.2.2.1 e.2.2.2.2.2) = true) : q_mok i := by
  have hm := q_ml_ok i hi
  refine ⟨hc, hpl, q_wat_ok (q_pi_ok i hi), hm.2.1, hm.2.2, hm.1, by rw [hcd]; exact hch, ?_, fun e he => ?_⟩
  · rw [hcd]
    cases cd with
    | nil => cases hhd
    | cons e t => exact ⟨e, rfl, q_beq.mp hhd⟩
  · rw [hcd] at he
    exact ⟨hdc e he, q_chk_ok hi (List.all_eq_true.mp hck e he)⟩
theorem q_pc0 : Cond.code (q_y 0) (q_b 0) (q_ml 0) (q_rt 0) ∈ q_w0 := List.mem_filter.mpr ⟨List.mem_of_getElem? (i := 1605) (by decide +kernel), by decide +kernel⟩
theorem q_dc0 : ∀ e ∈ q_cd0, decode (q_b 0) e.1 = .ok (e.2.2.1, e.2.1) := by decide +kernel
theorem q_ck0 : q_cd0.all (fun e => q_chk 0 e.1 e.2.1 e.2.2.1 e.2.2.2.1 e.2.2.2.2.1 e.2.2.2.2.2) = true := by decide +kernel
theorem q_mok0 : q_mok 0 := q_mk (by decide) q_pc0 (by decide +kernel) (by decide +kernel) rfl (by decide +kernel) q_dc0 q_ck0
theorem q_pc1 : Cond.code (q_y 1) (q_b 1) (q_ml 1) (q_rt 1) ∈ q_w0 := List.mem_filter.mpr ⟨List.mem_of_getElem? (i := 1534) (by decide +kernel), by decide +kernel⟩
theorem q_dc1 : ∀ e ∈ q_cd1, decode (q_b 1) e.1 = .ok (e.2.2.1, e.2.1) := by decide +kernel
theorem q_ck1 : q_cd1.all (fun e => q_chk 1 e.1 e.2.1 e.2.2.1 e.2.2.2.1 e.2.2.2.2.1 e.2.2.2.2.2) = true := by decide +kernel
theorem q_mok1 : q_mok 1 := q_mk (by decide) q_pc1 (by decide +kernel) (by decide +kernel) rfl (by decide +kernel) q_dc1 q_ck1
theorem q_pc2 : Cond.code (q_y 2) (q_b 2) (q_ml 2) (q_rt 2) ∈ q_w0 := List.mem_filter.mpr ⟨List.mem_of_getElem? (i := 1667) (by decide +kernel), by decide +kernel⟩
theorem q_dc2 : ∀ e ∈ q_cd2, decode (q_b 2) e.1 = .ok (e.2.2.1, e.2.1) := by decide +kernel
theorem q_ck2 : q_cd2.all (fun e => q_chk 2 e.1 e.2.1 e.2.2.1 e.2.2.2.1 e.2.2.2.2.1 e.2.2.2.2.2) = true := by decide +kernel
theorem q_mok2 : q_mok 2 := q_mk (by decide) q_pc2 (by decide +kernel) (by decide +kernel) rfl (by decide +kernel) q_dc2 q_ck2
theorem q_pc3 : Cond.code (q_y 3) (q_b 3) (q_ml 3) (q_rt 3) ∈ q_w0 := List.mem_filter.mpr ⟨List.mem_of_getElem? (i := 470) (by decide +kernel), by decide +kernel⟩
theorem q_dc3 : ∀ e ∈ q_cd3, decode (q_b 3) e.1 = .ok (e.2.2.1, e.2.1) := by decide +kernel
theorem q_ck3 : q_cd3.all (fun e => q_chk 3 e.1 e.2.1 e.2.2.1 e.2.2.2.1 e.2.2.2.2.1 e.2.2.2.2.2) = true := by decide +kernel
theorem q_mok3 : q_mok 3 := q_mk (by decide) q_pc3 (by decide +kernel) (by decide +kernel) rfl (by decide +kernel) q_dc3 q_ck3
theorem q_pc4 : Cond.code (q_y 4) (q_b 4) (q_ml 4) (q_rt 4) ∈ q_w0 := List.mem_filter.mpr ⟨List.mem_of_getElem? (i := 991) (by decide +kernel), by decide +kernel⟩
theorem q_dc4 : ∀ e ∈ q_cd4, decode (q_b 4) e.1 = .ok (e.2.2.1, e.2.1) := by decide +kernel
theorem q_ck4 : q_cd4.all (fun e => q_chk 4 e.1 e.2.1 e.2.2.1 e.2.2.2.1 e.2.2.2.2.1 e.2.2.2.2.2) = true := by decide +kernel
theorem q_mok4 : q_mok 4 := q_mk (by decide) q_pc4 (by decide +kernel) (by decide +kernel) rfl (by decide +kernel) q_dc4 q_ck4
theorem q_pc5 : Cond.code (q_y 5) (q_b 5) (q_ml 5) (q_rt 5) ∈ q_w0 := List.mem_filter.mpr ⟨List.mem_of_getElem? (i := 1880) (by decide +kernel), by decide +kernel⟩
theorem q_dc5 : ∀ e ∈ q_cd5, decode (q_b 5) e.1 = .ok (e.2.2.1, e.2.1) := by decide +kernel
theorem q_ck5 : q_cd5.all (fun e => q_chk 5 e.1 e.2.1 e.2.2.1 e.2.2.2.1 e.2.2.2.2.1 e.2.2.2.2.2) = true := by decide +kernel
theorem q_mok5 : q_mok 5 := q_mk (by decide) q_pc5 (by decide +kernel) (by decide +kernel) rfl (by decide +kernel) q_dc5 q_ck5
theorem q_pc6 : Cond.code (q_y 6) (q_b 6) (q_ml 6) (q_rt 6) ∈ q_w0 := List.mem_filter.mpr ⟨List.mem_of_getElem? (i := 1711) (by decide +kernel), by decide +kernel⟩
theorem q_dc6 : ∀ e ∈ q_cd6, decode (q_b 6) e.1 = .ok (e.2.2.1, e.2.1) := by decide +kernel
theorem q_ck6 : q_cd6.all (fun e => q_chk 6 e.1 e.2.1 e.2.2.1 e.2.2.2.1 e.2.2.2.2.1 e.2.2.2.2.2) = true := by decide +kernel
theorem q_mok6 : q_mok 6 := q_mk (by decide) q_pc6 (by decide +kernel) (by decide +kernel) rfl (by decide +kernel) q_dc6 q_ck6
theorem q_pc7 : Cond.code (q_y 7) (q_b 7) (q_ml 7) (q_rt 7) ∈ q_w0 := List.mem_filter.mpr ⟨List.mem_of_getElem? (i := 1763) (by decide +kernel), by decide +kernel⟩
theorem q_dc7 : ∀ e ∈ q_cd7, decode (q_b 7) e.1 = .ok (e.2.2.1, e.2.1) := by decide +kernel
theorem q_ck7 : q_cd7.all (fun e => q_chk 7 e.1 e.2.1 e.2.2.1 e.2.2.2.1 e.2.2.2.2.1 e.2.2.2.2.2) = true := by decide +kernel
theorem q_mok7 : q_mok 7 := q_mk (by decide) q_pc7 (by decide +kernel) (by decide +kernel) rfl (by decide +kernel) q_dc7 q_ck7
theorem q_pc8 : Cond.code (q_y 8) (q_b 8) (q_ml 8) (q_rt 8) ∈ q_w0 := List.mem_filter.mpr ⟨List.mem_of_getElem? (i := 1190) (by decide +kernel), by decide +kernel⟩
theorem q_dc8 : ∀ e ∈ q_cd8, decode (q_b 8) e.1 = .ok (e.2.2.1, e.2.1) := by decide +kernel
theorem q_ck8 : q_cd8.all (fun e => q_chk 8 e.1 e.2.1 e.2.2.1 e.2.2.2.1 e.2.2.2.2.1 e.2.2.2.2.2) = true := by decide +kernel
theorem q_mok8 : q_mok 8 := q_mk (by decide) q_pc8 (by decide +kernel) (by decide +kernel) rfl (by decide +kernel) q_dc8 q_ck8
theorem q_pc9 : Cond.code (q_y 9) (q_b 9) (q_ml 9) (q_rt 9) ∈ q_w0 := List.mem_filter.mpr ⟨List.mem_of_getElem? (i := 651) (by decide +kernel), by decide +kernel⟩
theorem q_dc9 : ∀ e ∈ q_cd9, decode (q_b 9) e.1 = .ok (e.2.2.1, e.2.1) := by decide +kernel
theorem q_ck9 : q_cd9.all (fun e => q_chk 9 e.1 e.2.1 e.2.2.1 e.2.2.2.1 e.2.2.2.2.1 e.2.2.2.2.2) = true := by decide +kernel
theorem q_mok9 : q_mok 9 := q_mk (by decide) q_pc9 (by decide +kernel) (by decide +kernel) rfl (by decide +kernel) q_dc9 q_ck9
theorem q_pc10 : Cond.code (q_y 10) (q_b 10) (q_ml 10) (q_rt 10) ∈ q_w0 := List.mem_filter.mpr ⟨List.mem_of_getElem? (i := 1888) (by decide +kernel), by decide +kernel⟩
theorem q_dc10 : ∀ e ∈ q_cd10, decode (q_b 10) e.1 = .ok (e.2.2.1, e.2.1) := by decide +kernel
theorem q_ck10 : q_cd10.all (fun e => q_chk 10 e.1 e.2.1 e.2.2.1 e.2.2.2.1 e.2.2.2.2.1 e.2.2.2.2.2) = true := by decide +kernel
theorem q_mok10 : q_mok 10 := q_mk (by decide) q_pc10 (by decide +kernel) (by decide +kernel) rfl (by decide +kernel) q_dc10 q_ck10
theorem q_pc11 : Cond.code (q_y 11) (q_b 11) (q_ml 11) (q_rt 11) ∈ q_w0 := List.mem_filter.mpr ⟨List.mem_of_getElem? (i := 1239) (by decide +kernel), by decide +kernel⟩
theorem q_dc11 : ∀ e ∈ q_cd11, decode (q_b 11) e.1 = .ok (e.2.2.1, e.2.1) := by decide +kernel
theorem q_ck11 : q_cd11.all (fun e => q_chk 11 e.1 e.2.1 e.2.2.1 e.2.2.2.1 e.2.2.2.2.1 e.2.2.2.2.2) = true := by decide +kernel
theorem q_mok11 : q_mok 11 := q_mk (by decide) q_pc11 (by decide +kernel) (by decide +kernel) rfl (by decide +kernel) q_dc11 q_ck11
theorem q_pc12 : Cond.code (q_y 12) (q_b 12) (q_ml 12) (q_rt 12) ∈ q_w0 := List.mem_filter.mpr ⟨List.mem_of_getElem? (i := 1597) (by decide +kernel), by decide +kernel⟩
theorem q_dc12 : ∀ e ∈ q_cd12, decode (q_b 12) e.1 = .ok (e.2.2.1, e.2.1) := by decide +kernel
theorem q_ck12 : q_cd12.all (fun e => q_chk 12 e.1 e.2.1 e.2.2.1 e.2.2.2.1 e.2.2.2.2.1 e.2.2.2.2.2) = true := by decide +kernel
theorem q_mok12 : q_mok 12 := q_mk (by decide) q_pc12 (by decide +kernel) (by decide +kernel) rfl (by decide +kernel) q_dc12 q_ck12
theorem q_pc13 : Cond.code (q_y 13) (q_b 13) (q_ml 13) (q_rt 13) ∈ q_w0 := List.mem_filter.mpr ⟨List.mem_of_getElem? (i := 807) (by decide +kernel), by decide +kernel⟩
theorem q_dc13 : ∀ e ∈ q_cd13, decode (q_b 13) e.1 = .ok (e.2.2.1, e.2.1) := by decide +kernel
theorem q_ck13 : q_cd13.all (fun e => q_chk 13 e.1 e.2.1 e.2.2.1 e.2.2.2.1 e.2.2.2.2.1 e.2.2.2.2.2) = true := by decide +kernel
theorem q_mok13 : q_mok 13 := q_mk (by decide) q_pc13 (by decide +kernel) (by decide +kernel) rfl (by decide +kernel) q_dc13 q_ck13
theorem q_pc14 : Cond.code (q_y 14) (q_b 14) (q_ml 14) (q_rt 14) ∈ q_w0 := List.mem_filter.mpr ⟨List.mem_of_getElem? (i := 1613) (by decide +kernel), by decide +kernel⟩
theorem q_dc14 : ∀ e ∈ q_cd14, decode (q_b 14) e.1 = .ok (e.2.2.1, e.2.1) := by decide +kernel
theorem q_ck14 : q_cd14.all (fun e => q_chk 14 e.1 e.2.1 e.2.2.1 e.2.2.2.1 e.2.2.2.2.1 e.2.2.2.2.2) = true := by decide +kernel
theorem q_mok14 : q_mok 14 := q_mk (by decide) q_pc14 (by decide +kernel) (by decide +kernel) rfl (by decide +kernel) q_dc14 q_ck14
theorem q_pc15 : Cond.code (q_y 15) (q_b 15) (q_ml 15) (q_rt 15) ∈ q_w0 := List.mem_filter.mpr ⟨List.mem_of_getElem? (i := 803) (by decide +kernel), by decide +kernel⟩
theorem q_dc15 : ∀ e ∈ q_cd15, decode (q_b 15) e.1 = .ok (e.2.2.1, e.2.1) := by decide +kernel
theorem q_ck15 : q_cd15.all (fun e => q_chk 15 e.1 e.2.1 e.2.2.1 e.2.2.2.1 e.2.2.2.2.1 e.2.2.2.2.2) = true := by decide +kernel
theorem q_mok15 : q_mok 15 := q_mk (by decide) q_pc15 (by decide +kernel) (by decide +kernel) rfl (by decide +kernel) q_dc15 q_ck15
theorem q_pc16 : Cond.code (q_y 16) (q_b 16) (q_ml 16) (q_rt 16) ∈ q_w0 := List.mem_filter.mpr ⟨List.mem_of_getElem? (i := 467) (by decide +kernel), by decide +kernel⟩
theorem q_dc16 : ∀ e ∈ q_cd16, decode (q_b 16) e.1 = .ok (e.2.2.1, e.2.1) := by decide +kernel
theorem q_ck16 : q_cd16.all (fun e => q_chk 16 e.1 e.2.1 e.2.2.1 e.2.2.2.1 e.2.2.2.2.1 e.2.2.2.2.2) = true := by decide +kernel
theorem q_mok16 : q_mok 16 := q_mk (by decide) q_pc16 (by decide +kernel) (by decide +kernel) rfl (by decide +kernel) q_dc16 q_ck16
theorem q_pc17 : Cond.code (q_y 17) (q_b 17) (q_ml 17) (q_rt 17) ∈ q_w0 := List.mem_filter.mpr ⟨List.mem_of_getElem? (i := 1609) (by decide +kernel), by decide +kernel⟩
theorem q_dc17 : ∀ e ∈ q_cd17, decode (q_b 17) e.1 = .ok (e.2.2.1, e.2.1) := by decide +kernel
theorem q_ck17 : q_cd17.all (fun e => q_chk 17 e.1 e.2.1 e.2.2.1 e.2.2.2.1 e.2.2.2.2.1 e.2.2.2.2.2) = true := by decide +kernel
theorem q_mok17 : q_mok 17 := q_mk (by decide) q_pc17 (by decide +kernel) (by decide +kernel) rfl (by decide +kernel) q_dc17 q_ck17
theorem q_pc18 : Cond.code (q_y 18) (q_b 18) (q_ml 18) (q_rt 18) ∈ q_w0 := List.mem_filter.mpr ⟨List.mem_of_getElem? (i := 1621) (by decide +kernel), by decide +kernel⟩
theorem q_dc18 : ∀ e ∈ q_cd18, decode (q_b 18) e.1 = .ok (e.2.2.1, e.2.1) := by decide +kernel
theorem q_ck18 : q_cd18.all (fun e => q_chk 18 e.1 e.2.1 e.2.2.1 e.2.2.2.1 e.2.2.2.2.1 e.2.2.2.2.2) = true := by decide +kernel
theorem q_mok18 : q_mok 18 := q_mk (by decide) q_pc18 (by decide +kernel) (by decide +kernel) rfl (by decide +kernel) q_dc18 q_ck18
theorem q_pc19 : Cond.code (q_y 19) (q_b 19) (q_ml 19) (q_rt 19) ∈ q_w0 := List.mem_filter.mpr ⟨List.mem_of_getElem? (i := 1165) (by decide +kernel), by decide +kernel⟩
theorem q_dc19 : ∀ e ∈ q_cd19, decode (q_b 19) e.1 = .ok (e.2.2.1, e.2.1) := by decide +kernel
theorem q_ck19 : q_cd19.all (fun e => q_chk 19 e.1 e.2.1 e.2.2.1 e.2.2.2.1 e.2.2.2.2.1 e.2.2.2.2.2) = true := by decide +kernel
theorem q_mok19 : q_mok 19 := q_mk (by decide) q_pc19 (by decide +kernel) (by decide +kernel) rfl (by decide +kernel) q_dc19 q_ck19
theorem q_pc20 : Cond.code (q_y 20) (q_b 20) (q_ml 20) (q_rt 20) ∈ q_w0 := List.mem_filter.mpr ⟨List.mem_of_getElem? (i := 1172) (by decide +kernel), by decide +kernel⟩
theorem q_dc20 : ∀ e ∈ q_cd20, decode (q_b 20) e.1 = .ok (e.2.2.1, e.2.1) := by decide +kernel
theorem q_ck20 : q_cd20.all (fun e => q_chk 20 e.1 e.2.1 e.2.2.1 e.2.2.2.1 e.2.2.2.2.1 e.2.2.2.2.2) = true := by decide +kernel
theorem q_mok20 : q_mok 20 := q_mk (by decide) q_pc20 (by decide +kernel) (by decide +kernel) rfl (by decide +kernel) q_dc20 q_ck20
theorem q_pc21 : Cond.code (q_y 21) (q_b 21) (q_ml 21) (q_rt 21) ∈ q_w0 := List.mem_filter.mpr ⟨List.mem_of_getElem? (i := 1751) (by decide +kernel), by decide +kernel⟩
theorem q_dc21 : ∀ e ∈ q_cd21, decode (q_b 21) e.1 = .ok (e.2.2.1, e.2.1) := by decide +kernel
theorem q_ck21 : q_cd21.all (fun e => q_chk 21 e.1 e.2.1 e.2.2.1 e.2.2.2.1 e.2.2.2.2.1 e.2.2.2.2.2) = true := by decide +kernel
theorem q_mok21 : q_mok 21 := q_mk (by decide) q_pc21 (by decide +kernel) (by decide +kernel) rfl (by decide +kernel) q_dc21 q_ck21
theorem q_pc22 : Cond.code (q_y 22) (q_b 22) (q_ml 22) (q_rt 22) ∈ q_w0 := List.mem_filter.mpr ⟨List.mem_of_getElem? (i := 951) (by decide +kernel), by decide +kernel⟩
theorem q_dc22 : ∀ e ∈ q_cd22, decode (q_b 22) e.1 = .ok (e.2.2.1, e.2.1) := by decide +kernel
theorem q_ck22 : q_cd22.all (fun e => q_chk 22 e.1 e.2.1 e.2.2.1 e.2.2.2.1 e.2.2.2.2.1 e.2.2.2.2.2) = true := by decide +kernel
theorem q_mok22 : q_mok 22 := q_mk (by decide) q_pc22 (by decide +kernel) (by decide +kernel) rfl (by decide +kernel) q_dc22 q_ck22
theorem q_pc23 : Cond.code (q_y 23) (q_b 23) (q_ml 23) (q_rt 23) ∈ q_w0 := List.mem_filter.mpr ⟨List.mem_of_getElem? (i := 1231) (by decide +kernel), by decide +kernel⟩
theorem q_dc23 : ∀ e ∈ q_cd23, decode (q_b 23) e.1 = .ok (e.2.2.1, e.2.1) := by decide +kernel
theorem q_ck23 : q_cd23.all (fun e => q_chk 23 e.1 e.2.1 e.2.2.1 e.2.2.2.1 e.2.2.2.2.1 e.2.2.2.2.2) = true := by decide +kernel
theorem q_mok23 : q_mok 23 := q_mk (by decide) q_pc23 (by decide +kernel) (by decide +kernel) rfl (by decide +kernel) q_dc23 q_ck23
theorem q_pc24 : Cond.code (q_y 24) (q_b 24) (q_ml 24) (q_rt 24) ∈ q_w0 := List.mem_filter.mpr ⟨List.mem_of_getElem? (i := 1046) (by decide +kernel), by decide +kernel⟩
theorem q_dc24 : ∀ e ∈ q_cd24, decode (q_b 24) e.1 = .ok (e.2.2.1, e.2.1) := by decide +kernel
theorem q_ck24 : q_cd24.all (fun e => q_chk 24 e.1 e.2.1 e.2.2.1 e.2.2.2.1 e.2.2.2.2.1 e.2.2.2.2.2) = true := by decide +kernel
theorem q_mok24 : q_mok 24 := q_mk (by decide) q_pc24 (by decide +kernel) (by decide +kernel) rfl (by decide +kernel) q_dc24 q_ck24
theorem q_pc25 : Cond.code (q_y 25) (q_b 25) (q_ml 25) (q_rt 25) ∈ q_w0 := List.mem_filter.mpr ⟨List.mem_of_getElem? (i := 794) (by decide +kernel), by decide +kernel⟩
theorem q_dc25 : ∀ e ∈ q_cd25, decode (q_b 25) e.1 = .ok (e.2.2.1, e.2.1) := by decide +kernel
theorem q_ck25 : q_cd25.all (fun e => q_chk 25 e.1 e.2.1 e.2.2.1 e.2.2.2.1 e.2.2.2.2.1 e.2.2.2.2.2) = true := by decide +kernel
theorem q_mok25 : q_mok 25 := q_mk (by decide) q_pc25 (by decide +kernel) (by decide +kernel) rfl (by decide +kernel) q_dc25 q_ck25
theorem q_pc26 : Cond.code (q_y 26) (q_b 26) (q_ml 26) (q_rt 26) ∈ q_w0 := List.mem_filter.mpr ⟨List.mem_of_getElem? (i := 474) (by decide +kernel), by decide +kernel⟩
theorem q_dc26 : ∀ e ∈ q_cd26, decode (q_b 26) e.1 = .ok (e.2.2.1, e.2.1) := by decide +kernel
theorem q_ck26 : q_cd26.all (fun e => q_chk 26 e.1 e.2.1 e.2.2.1 e.2.2.2.1 e.2.2.2.2.1 e.2.2.2.2.2) = true := by decide +kernel
theorem q_mok26 : q_mok 26 := q_mk (by decide) q_pc26 (by decide +kernel) (by decide +kernel) rfl (by decide +kernel) q_dc26 q_ck26
theorem q_pc27 : Cond.code (q_y 27) (q_b 27) (q_ml 27) (q_rt 27) ∈ q_w0 := List.mem_filter.mpr ⟨List.mem_of_getElem? (i := 1128) (by decide +kernel), by decide +kernel⟩
theorem q_dc27 : ∀ e ∈ q_cd27, decode (q_b 27) e.1 = .ok (e.2.2.1, e.2.1) := by decide +kernel
theorem q_ck27 : q_cd27.all (fun e => q_chk 27 e.1 e.2.1 e.2.2.1 e.2.2.2.1 e.2.2.2.2.1 e.2.2.2.2.2) = true := by decide +kernel
theorem q_mok27 : q_mok 27 := q_mk (by decide) q_pc27 (by decide +kernel) (by decide +kernel) rfl (by decide +kernel) q_dc27 q_ck27
theorem q_pc28 : Cond.code (q_y 28) (q_b 28) (q_ml 28) (q_rt 28) ∈ q_w0 := List.mem_filter.mpr ⟨List.mem_of_getElem? (i := 1136) (by decide +kernel), by decide +kernel⟩
theorem q_dc28 : ∀ e ∈ q_cd28, decode (q_b 28) e.1 = .ok (e.2.2.1, e.2.1) := by decide +kernel
theorem q_ck28 : q_cd28.all (fun e => q_chk 28 e.1 e.2.1 e.2.2.1 e.2.2.2.1 e.2.2.2.2.1 e.2.2.2.2.2) = true := by decide +kernel
theorem q_mok28 : q_mok 28 := q_mk (by decide) q_pc28 (by decide +kernel) (by decide +kernel) rfl (by decide +kernel) q_dc28 q_ck28
theorem q_pc29 : Cond.code (q_y 29) (q_b 29) (q_ml 29) (q_rt 29) ∈ q_w0 := List.mem_filter.mpr ⟨List.mem_of_getElem? (i := 1594) (by decide +kernel), by decide +kernel⟩
theorem q_dc29 : ∀ e ∈ q_cd29, decode (q_b 29) e.1 = .ok (e.2.2.1, e.2.1) := by decide +kernel
theorem q_ck29 : q_cd29.all (fun e => q_chk 29 e.1 e.2.1 e.2.2.1 e.2.2.2.1 e.2.2.2.2.1 e.2.2.2.2.2) = true := by decide +kernel
theorem q_mok29 : q_mok 29 := q_mk (by decide) q_pc29 (by decide +kernel) (by decide +kernel) rfl (by decide +kernel) q_dc29 q_ck29
theorem q_pc30 : Cond.code (q_y 30) (q_b 30) (q_ml 30) (q_rt 30) ∈ q_w0 := List.mem_filter.mpr ⟨List.mem_of_getElem? (i := 1108) (by decide +kernel), by decide +kernel⟩
theorem q_dc30 : ∀ e ∈ q_cd30, decode (q_b 30) e.1 = .ok (e.2.2.1, e.2.1) := by decide +kernel
theorem q_ck30 : q_cd30.all (fun e => q_chk 30 e.1 e.2.1 e.2.2.1 e.2.2.2.1 e.2.2.2.2.1 e.2.2.2.2.2) = true := by decide +kernel
theorem q_mok30 : q_mok 30 := q_mk (by decide) q_pc30 (by decide +kernel) (by decide +kernel) rfl (by decide +kernel) q_dc30 q_ck30
theorem q_pc31 : Cond.code (q_y 31) (q_b 31) (q_ml 31) (q_rt 31) ∈ q_w0 := List.mem_filter.mpr ⟨List.mem_of_getElem? (i := 1851) (by decide +kernel), by decide +kernel⟩
theorem q_dc31 : ∀ e ∈ q_cd31, decode (q_b 31) e.1 = .ok (e.2.2.1, e.2.1) := by decide +kernel
theorem q_ck31 : q_cd31.all (fun e => q_chk 31 e.1 e.2.1 e.2.2.1 e.2.2.2.1 e.2.2.2.2.1 e.2.2.2.2.2) = true := by decide +kernel
theorem q_mok31 : q_mok 31 := q_mk (by decide) q_pc31 (by decide +kernel) (by decide +kernel) rfl (by decide +kernel) q_dc31 q_ck31
theorem q_pc32 : Cond.code (q_y 32) (q_b 32) (q_ml 32) (q_rt 32) ∈ q_w0 := List.mem_filter.mpr ⟨List.mem_of_getElem? (i := 1859) (by decide +kernel), by decide +kernel⟩
theorem q_dc32 : ∀ e ∈ q_cd32, decode (q_b 32) e.1 = .ok (e.2.2.1, e.2.1) := by decide +kernel
theorem q_ck32 : q_cd32.all (fun e => q_chk 32 e.1 e.2.1 e.2.2.1 e.2.2.2.1 e.2.2.2.2.1 e.2.2.2.2.2) = true := by decide +kernel
theorem q_mok32 : q_mok 32 := q_mk (by decide) q_pc32 (by decide +kernel) (by decide +kernel) rfl (by decide +kernel) q_dc32 q_ck32
theorem q_pc33 : Cond.code (q_y 33) (q_b 33) (q_ml 33) (q_rt 33) ∈ q_w0 := List.mem_filter.mpr ⟨List.mem_of_getElem? (i := 1042) (by decide +kernel), by decide +kernel⟩
theorem q_dc33 : ∀ e ∈ q_cd33, decode (q_b 33) e.1 = .ok (e.2.2.1, e.2.1) := by decide +kernel
theorem q_ck33 : q_cd33.all (fun e => q_chk 33 e.1 e.2.1 e.2.2.1 e.2.2.2.1 e.2.2.2.2.1 e.2.2.2.2.2) = true := by decide +kernel
theorem q_mok33 : q_mok 33 := q_mk (by decide) q_pc33 (by decide +kernel) (by decide +kernel) rfl (by decide +kernel) q_dc33 q_ck33
theorem q_pc34 : Cond.code (q_y 34) (q_b 34) (q_ml 34) (q_rt 34) ∈ q_w0 := List.mem_filter.mpr ⟨List.mem_of_getElem? (i := 1132) (by decide +kernel), by decide +kernel⟩
theorem q_dc34 : ∀ e ∈ q_cd34, decode (q_b 34) e.1 = .ok (e.2.2.1, e.2.1) := by decide +kernel
theorem q_ck34 : q_cd34.all (fun e => q_chk 34 e.1 e.2.1 e.2.2.1 e.2.2.2.1 e.2.2.2.2.1 e.2.2.2.2.2) = true := by decide +kernel
theorem q_mok34 : q_mok 34 := q_mk (by decide) q_pc34 (by decide +kernel) (by decide +kernel) rfl (by decide +kernel) q_dc34 q_ck34
theorem q_pc35 : Cond.code (q_y 35) (q_b 35) (q_ml 35) (q_rt 35) ∈ q_w0 := List.mem_filter.mpr ⟨List.mem_of_getElem? (i := 815) (by decide +kernel), by decide +kernel⟩
theorem q_dc35 : ∀ e ∈ q_cd35, decode (q_b 35) e.1 = .ok (e.2.2.1, e.2.1) := by decide +kernel
theorem q_ck35 : q_cd35.all (fun e => q_chk 35 e.1 e.2.1 e.2.2.1 e.2.2.2.1 e.2.2.2.2.1 e.2.2.2.2.2) = true := by decide +kernel
theorem q_mok35 : q_mok 35 := q_mk (by decide) q_pc35 (by decide +kernel) (by decide +kernel) rfl (by decide +kernel) q_dc35 q_ck35
theorem q_pc36 : Cond.code (q_y 36) (q_b 36) (q_ml 36) (q_rt 36) ∈ q_w0 := List.mem_filter.mpr ⟨List.mem_of_getElem? (i := 717) (by decide +kernel), by decide +kernel⟩
theorem q_dc36 : ∀ e ∈ q_cd36, decode (q_b 36) e.1 = .ok (e.2.2.1, e.2.1) := by decide +kernel
theorem q_ck36 : q_cd36.all (fun e => q_chk 36 e.1 e.2.1 e.2.2.1 e.2.2.2.1 e.2.2.2.2.1 e.2.2.2.2.2) = true := by decide +kernel
theorem q_mok36 : q_mok 36 := q_mk (by decide) q_pc36 (by decide +kernel) (by decide +kernel) rfl (by decide +kernel) q_dc36 q_ck36
theorem q_pc37 : Cond.code (q_y 37) (q_b 37) (q_ml 37) (q_rt 37) ∈ q_w0 := List.mem_filter.mpr ⟨List.mem_of_getElem? (i := 1049) (by decide +kernel), by decide +kernel⟩
theorem q_dc37 : ∀ e ∈ q_cd37, decode (q_b 37) e.1 = .ok (e.2.2.1, e.2.1) := by decide +kernel
theorem q_ck37 : q_cd37.all (fun e => q_chk 37 e.1 e.2.1 e.2.2.1 e.2.2.2.1 e.2.2.2.2.1 e.2.2.2.2.2) = true := by decide +kernel
theorem q_mok37 : q_mok 37 := q_mk (by decide) q_pc37 (by decide +kernel) (by decide +kernel) rfl (by decide +kernel) q_dc37 q_ck37
theorem q_pc38 : Cond.code (q_y 38) (q_b 38) (q_ml 38) (q_rt 38) ∈ q_w0 := List.mem_filter.mpr ⟨List.mem_of_getElem? (i := 1796) (by decide +kernel), by decide +kernel⟩
theorem q_dc38 : ∀ e ∈ q_cd38, decode (q_b 38) e.1 = .ok (e.2.2.1, e.2.1) := by decide +kernel
theorem q_ck38 : q_cd38.all (fun e => q_chk 38 e.1 e.2.1 e.2.2.1 e.2.2.2.1 e.2.2.2.2.1 e.2.2.2.2.2) = true := by decide +kernel
theorem q_mok38 : q_mok 38 := q_mk (by decide) q_pc38 (by decide +kernel) (by decide +kernel) rfl (by decide +kernel) q_dc38 q_ck38
theorem q_pc39 : Cond.code (q_y 39) (q_b 39) (q_ml 39) (q_rt 39) ∈ q_w0 := List.mem_filter.mpr ⟨List.mem_of_getElem? (i := 1799) (by decide +kernel), by decide +kernel⟩
theorem q_dc39 : ∀ e ∈ q_cd39, decode (q_b 39) e.1 = .ok (e.2.2.1, e.2.1) := by decide +kernel
theorem q_ck39 : q_cd39.all (fun e => q_chk 39 e.1 e.2.1 e.2.2.1 e.2.2.2.1 e.2.2.2.2.1 e.2.2.2.2.2) = true := by decide +kernel
theorem q_mok39 : q_mok 39 := q_mk (by decide) q_pc39 (by decide +kernel) (by decide +kernel) rfl (by decide +kernel) q_dc39 q_ck39
theorem q_pc40 : Cond.code (q_y 40) (q_b 40) (q_ml 40) (q_rt 40) ∈ q_w0 := List.mem_filter.mpr ⟨List.mem_of_getElem? (i := 1213) (by decide +kernel), by decide +kernel⟩
theorem q_dc40 : ∀ e ∈ q_cd40, decode (q_b 40) e.1 = .ok (e.2.2.1, e.2.1) := by decide +kernel
theorem q_ck40 : q_cd40.all (fun e => q_chk 40 e.1 e.2.1 e.2.2.1 e.2.2.2.1 e.2.2.2.2.1 e.2.2.2.2.2) = true := by decide +kernel
theorem q_mok40 : q_mok 40 := q_mk (by decide) q_pc40 (by decide +kernel) (by decide +kernel) rfl (by decide +kernel) q_dc40 q_ck40
theorem q_pc41 : Cond.code (q_y 41) (q_b 41) (q_ml 41) (q_rt 41) ∈ q_w0 := List.mem_filter.mpr ⟨List.mem_of_getElem? (i := 820) (by decide +kernel), by decide +kernel⟩
theorem q_dc41 : ∀ e ∈ q_cd41, decode (q_b 41) e.1 = .ok (e.2.2.1, e.2.1) := by decide +kernel
theorem q_ck41 : q_cd41.all (fun e => q_chk 41 e.1 e.2.1 e.2.2.1 e.2.2.2.1 e.2.2.2.2.1 e.2.2.2.2.2) = true := by decide +kernel
theorem q_mok41 : q_mok 41 := q_mk (by decide) q_pc41 (by decide +kernel) (by decide +kernel) rfl (by decide +kernel) q_dc41 q_ck41
theorem q_pc42 : Cond.code (q_y 42) (q_b 42) (q_ml 42) (q_rt 42) ∈ q_w0 := List.mem_filter.mpr ⟨List.mem_of_getElem? (i := 824) (by decide +kernel), by decide +kernel⟩
theorem q_dc42 : ∀ e ∈ q_cd42, decode (q_b 42) e.1 = .ok (e.2.2.1, e.2.1) := by decide +kernel
theorem q_ck42 : q_cd42.all (fun e => q_chk 42 e.1 e.2.1 e.2.2.1 e.2.2.2.1 e.2.2.2.2.1 e.2.2.2.2.2) = true := by decide +kernel
theorem q_mok42 : q_mok 42 := q_mk (by decide) q_pc42 (by decide +kernel) (by decide +kernel) rfl (by decide +kernel) q_dc42 q_ck42
theorem q_pc43 : Cond.code (q_y 43) (q_b 43) (q_ml 43) (q_rt 43) ∈ q_w0 := List.mem_filter.mpr ⟨List.mem_of_getElem? (i := 1908) (by decide +kernel), by decide +kernel⟩
theorem q_dc43 : ∀ e ∈ q_cd43, decode (q_b 43) e.1 = .ok (e.2.2.1, e.2.1) := by decide +kernel
theorem q_ck43 : q_cd43.all (fun e => q_chk 43 e.1 e.2.1 e.2.2.1 e.2.2.2.1 e.2.2.2.2.1 e.2.2.2.2.2) = true := by decide +kernel
theorem q_mok43 : q_mok 43 := q_mk (by decide) q_pc43 (by decide +kernel) (by decide +kernel) rfl (by decide +kernel) q_dc43 q_ck43
theorem q_pc44 : Cond.code (q_y 44) (q_b 44) (q_ml 44) (q_rt 44) ∈ q_w0 := List.mem_filter.mpr ⟨List.mem_of_getElem? (i := 1199) (by decide +kernel), by decide +kernel⟩
theorem q_dc44 : ∀ e ∈ q_cd44, decode (q_b 44) e.1 = .ok (e.2.2.1, e.2.1) := by decide +kernel
theorem q_ck44 : q_cd44.all (fun e => q_chk 44 e.1 e.2.1 e.2.2.1 e.2.2.2.1 e.2.2.2.2.1 e.2.2.2.2.2) = true := by decide +kernel
theorem q_mok44 : q_mok 44 := q_mk (by decide) q_pc44 (by decide +kernel) (by decide +kernel) rfl (by decide +kernel) q_dc44 q_ck44
theorem q_pc45 : Cond.code (q_y 45) (q_b 45) (q_ml 45) (q_rt 45) ∈ q_w0 := List.mem_filter.mpr ⟨List.mem_of_getElem? (i := 836) (by decide +kernel), by decide +kernel⟩
theorem q_dc45 : ∀ e ∈ q_cd45, decode (q_b 45) e.1 = .ok (e.2.2.1, e.2.1) := by decide +kernel
theorem q_ck45 : q_cd45.all (fun e => q_chk 45 e.1 e.2.1 e.2.2.1 e.2.2.2.1 e.2.2.2.2.1 e.2.2.2.2.2) = true := by decide +kernel
theorem q_mok45 : q_mok 45 := q_mk (by decide) q_pc45 (by decide +kernel) (by decide +kernel) rfl (by decide +kernel) q_dc45 q_ck45
theorem q_pc46 : Cond.code (q_y 46) (q_b 46) (q_ml 46) (q_rt 46) ∈ q_w0 := List.mem_filter.mpr ⟨List.mem_of_getElem? (i := 847) (by decide +kernel), by decide +kernel⟩
theorem q_dc46 : ∀ e ∈ q_cd46, decode (q_b 46) e.1 = .ok (e.2.2.1, e.2.1) := by decide +kernel
theorem q_ck46 : q_cd46.all (fun e => q_chk 46 e.1 e.2.1 e.2.2.1 e.2.2.2.1 e.2.2.2.2.1 e.2.2.2.2.2) = true := by decide +kernel
theorem q_mok46 : q_mok 46 := q_mk (by decide) q_pc46 (by decide +kernel) (by decide +kernel) rfl (by decide +kernel) q_dc46 q_ck46
theorem q_pc47 : Cond.code (q_y 47) (q_b 47) (q_ml 47) (q_rt 47) ∈ q_w0 := List.mem_filter.mpr ⟨List.mem_of_getElem? (i := 851) (by decide +kernel), by decide +kernel⟩
theorem q_dc47 : ∀ e ∈ q_cd47, decode (q_b 47) e.1 = .ok (e.2.2.1, e.2.1) := by decide +kernel
theorem q_ck47 : q_cd47.all (fun e => q_chk 47 e.1 e.2.1 e.2.2.1 e.2.2.2.1 e.2.2.2.2.1 e.2.2.2.2.2) = true := by decide +kernel
theorem q_mok47 : q_mok 47 := q_mk (by decide) q_pc47 (by decide +kernel) (by decide +kernel) rfl (by decide +kernel) q_dc47 q_ck47
theorem q_pc48 : Cond.code (q_y 48) (q_b 48) (q_ml 48) (q_rt 48) ∈ q_w0 := List.mem_filter.mpr ⟨List.mem_of_getElem? (i := 1803) (by decide +kernel), by decide +kernel⟩
theorem q_dc48 : ∀ e ∈ q_cd48, decode (q_b 48) e.1 = .ok (e.2.2.1, e.2.1) := by decide +kernel
theorem q_ck48 : q_cd48.all (fun e => q_chk 48 e.1 e.2.1 e.2.2.1 e.2.2.2.1 e.2.2.2.2.1 e.2.2.2.2.2) = true := by decide +kernel
theorem q_mok48 : q_mok 48 := q_mk (by decide) q_pc48 (by decide +kernel) (by decide +kernel) rfl (by decide +kernel) q_dc48 q_ck48
theorem q_pc49 : Cond.code (q_y 49) (q_b 49) (q_ml 49) (q_rt 49) ∈ q_w0 := List.mem_filter.mpr ⟨List.mem_of_getElem? (i := 481) (by decide +kernel), by decide +kernel⟩
theorem q_dc49 : ∀ e ∈ q_cd49, decode (q_b 49) e.1 = .ok (e.2.2.1, e.2.1) := by decide +kernel
theorem q_ck49 : q_cd49.all (fun e => q_chk 49 e.1 e.2.1 e.2.2.1 e.2.2.2.1 e.2.2.2.2.1 e.2.2.2.2.2) = true := by decide +kernel
theorem q_mok49 : q_mok 49 := q_mk (by decide) q_pc49 (by decide +kernel) (by decide +kernel) rfl (by decide +kernel) q_dc49 q_ck49
theorem q_pc50 : Cond.code (q_y 50) (q_b 50) (q_ml 50) (q_rt 50) ∈ q_w0 := List.mem_filter.mpr ⟨List.mem_of_getElem? (i := 1084) (by decide +kernel), by decide +kernel⟩
theorem q_dc50 : ∀ e ∈ q_cd50, decode (q_b 50) e.1 = .ok (e.2.2.1, e.2.1) := by decide +kernel
theorem q_ck50 : q_cd50.all (fun e => q_chk 50 e.1 e.2.1 e.2.2.1 e.2.2.2.1 e.2.2.2.2.1 e.2.2.2.2.2) = true := by decide +kernel
theorem q_mok50 : q_mok 50 := q_mk (by decide) q_pc50 (by decide +kernel) (by decide +kernel) rfl (by decide +kernel) q_dc50 q_ck50
theorem q_pc51 : Cond.code (q_y 51) (q_b 51) (q_ml 51) (q_rt 51) ∈ q_w0 := List.mem_filter.mpr ⟨List.mem_of_getElem? (i := 1791) (by decide +kernel), by decide +kernel⟩
theorem q_dc51 : ∀ e ∈ q_cd51, decode (q_b 51) e.1 = .ok (e.2.2.1, e.2.1) := by decide +kernel
theorem q_ck51 : q_cd51.all (fun e => q_chk 51 e.1 e.2.1 e.2.2.1 e.2.2.2.1 e.2.2.2.2.1 e.2.2.2.2.2) = true := by decide +kernel
theorem q_mok51 : q_mok 51 := q_mk (by decide) q_pc51 (by decide +kernel) (by decide +kernel) rfl (by decide +kernel) q_dc51 q_ck51
theorem q_pc52 : Cond.code (q_y 52) (q_b 52) (q_ml 52) (q_rt 52) ∈ q_w0 := List.mem_filter.mpr ⟨List.mem_of_getElem? (i := 1074) (by decide +kernel), by decide +kernel⟩
theorem q_dc52 : ∀ e ∈ q_cd52, decode (q_b 52) e.1 = .ok (e.2.2.1, e.2.1) := by decide +kernel
theorem q_ck52 : q_cd52.all (fun e => q_chk 52 e.1 e.2.1 e.2.2.1 e.2.2.2.1 e.2.2.2.2.1 e.2.2.2.2.2) = true := by decide +kernel
theorem q_mok52 : q_mok 52 := q_mk (by decide) q_pc52 (by decide +kernel) (by decide +kernel) rfl (by decide +kernel) q_dc52 q_ck52
theorem q_pc53 : Cond.code (q_y 53) (q_b 53) (q_ml 53) (q_rt 53) ∈ q_w0 := List.mem_filter.mpr ⟨List.mem_of_getElem? (i := 1640) (by decide +kernel), by decide +kernel⟩
theorem q_dc53 : ∀ e ∈ q_cd53, decode (q_b 53) e.1 = .ok (e.2.2.1, e.2.1) := by decide +kernel
theorem q_ck53 : q_cd53.all (fun e => q_chk 53 e.1 e.2.1 e.2.2.1 e.2.2.2.1 e.2.2.2.2.1 e.2.2.2.2.2) = true := by decide +kernel
theorem q_mok53 : q_mok 53 := q_mk (by decide) q_pc53 (by decide +kernel) (by decide +kernel) rfl (by decide +kernel) q_dc53 q_ck53
theorem q_pc54 : Cond.code (q_y 54) (q_b 54) (q_ml 54) (q_rt 54) ∈ q_w0 := List.mem_filter.mpr ⟨List.mem_of_getElem? (i := 1140) (by decide +kernel), by decide +kernel⟩
theorem q_dc54 : ∀ e ∈ q_cd54, decode (q_b 54) e.1 = .ok (e.2.2.1, e.2.1) := by decide +kernel
theorem q_ck54 : q_cd54.all (fun e => q_chk 54 e.1 e.2.1 e.2.2.1 e.2.2.2.1 e.2.2.2.2.1 e.2.2.2.2.2) = true := by decide +kernel
theorem q_mok54 : q_mok 54 := q_mk (by decide) q_pc54 (by decide +kernel) (by decide +kernel) rfl (by decide +kernel) q_dc54 q_ck54
theorem q_pc55 : Cond.code (q_y 55) (q_b 55) (q_ml 55) (q_rt 55) ∈ q_w0 := List.mem_filter.mpr ⟨List.mem_of_getElem? (i := 1648) (by decide +kernel), by decide +kernel⟩
theorem q_dc55 : ∀ e ∈ q_cd55, decode (q_b 55) e.1 = .ok (e.2.2.1, e.2.1) := by decide +kernel
theorem q_ck55 : q_cd55.all (fun e => q_chk 55 e.1 e.2.1 e.2.2.1 e.2.2.2.1 e.2.2.2.2.1 e.2.2.2.2.2) = true := by decide +kernel
theorem q_mok55 : q_mok 55 := q_mk (by decide) q_pc55 (by decide +kernel) (by decide +kernel) rfl (by decide +kernel) q_dc55 q_ck55
theorem q_pc56 : Cond.code (q_y 56) (q_b 56) (q_ml 56) (q_rt 56) ∈ q_w0 := List.mem_filter.mpr ⟨List.mem_of_getElem? (i := 1663) (by decide +kernel), by decide +kernel⟩
theorem q_dc56 : ∀ e ∈ q_cd56, decode (q_b 56) e.1 = .ok (e.2.2.1, e.2.1) := by decide +kernel
theorem q_ck56 : q_cd56.all (fun e => q_chk 56 e.1 e.2.1 e.2.2.1 e.2.2.2.1 e.2.2.2.2.1 e.2.2.2.2.2) = true := by decide +kernel
theorem q_mok56 : q_mok 56 := q_mk (by decide) q_pc56 (by decide +kernel) (by decide +kernel) rfl (by decide +kernel) q_dc56 q_ck56
theorem q_pc57 : Cond.code (q_y 57) (q_b 57) (q_ml 57) (q_rt 57) ∈ q_w0 := List.mem_filter.mpr ⟨List.mem_of_getElem? (i := 1204) (by decide +kernel), by decide +kernel⟩
theorem q_dc57 : ∀ e ∈ q_cd57, decode (q_b 57) e.1 = .ok (e.2.2.1, e.2.1) := by decide +kernel
theorem q_ck57 : q_cd57.all (fun e => q_chk 57 e.1 e.2.1 e.2.2.1 e.2.2.2.1 e.2.2.2.2.1 e.2.2.2.2.2) = true := by decide +kernel
theorem q_mok57 : q_mok 57 := q_mk (by decide) q_pc57 (by decide +kernel) (by decide +kernel) rfl (by decide +kernel) q_dc57 q_ck57
theorem q_pc58 : Cond.code (q_y 58) (q_b 58) (q_ml 58) (q_rt 58) ∈ q_w0 := List.mem_filter.mpr ⟨List.mem_of_getElem? (i := 1209) (by decide +kernel), by decide +kernel⟩
theorem q_dc58 : ∀ e ∈ q_cd58, decode (q_b 58) e.1 = .ok (e.2.2.1, e.2.1) := by decide +kernel
theorem q_ck58 : q_cd58.all (fun e => q_chk 58 e.1 e.2.1 e.2.2.1 e.2.2.2.1 e.2.2.2.2.1 e.2.2.2.2.2) = true := by decide +kernel
theorem q_mok58 : q_mok 58 := q_mk (by decide) q_pc58 (by decide +kernel) (by decide +kernel) rfl (by decide +kernel) q_dc58 q_ck58
theorem q_pc59 : Cond.code (q_y 59) (q_b 59) (q_ml 59) (q_rt 59) ∈ q_w0 := List.mem_filter.mpr ⟨List.mem_of_getElem? (i := 332) (by decide +kernel), by decide +kernel⟩
theorem q_dc59 : ∀ e ∈ q_cd59, decode (q_b 59) e.1 = .ok (e.2.2.1, e.2.1) := by decide +kernel
theorem q_ck59 : q_cd59.all (fun e => q_chk 59 e.1 e.2.1 e.2.2.1 e.2.2.2.1 e.2.2.2.2.1 e.2.2.2.2.2) = true := by decide +kernel
theorem q_mok59 : q_mok 59 := q_mk (by decide) q_pc59 (by decide +kernel) (by decide +kernel) rfl (by decide +kernel) q_dc59 q_ck59
theorem q_pc60 : Cond.code (q_y 60) (q_b 60) (q_ml 60) (q_rt 60) ∈ q_w0 := List.mem_filter.mpr ⟨List.mem_of_getElem? (i := 786) (by decide +kernel), by decide +kernel⟩
theorem q_dc60 : ∀ e ∈ q_cd60, decode (q_b 60) e.1 = .ok (e.2.2.1, e.2.1) := by decide +kernel
theorem q_ck60 : q_cd60.all (fun e => q_chk 60 e.1 e.2.1 e.2.2.1 e.2.2.2.1 e.2.2.2.2.1 e.2.2.2.2.2) = true := by decide +kernel
theorem q_mok60 : q_mok 60 := q_mk (by decide) q_pc60 (by decide +kernel) (by decide +kernel) rfl (by decide +kernel) q_dc60 q_ck60
theorem q_pc61 : Cond.code (q_y 61) (q_b 61) (q_ml 61) (q_rt 61) ∈ q_w0 := List.mem_filter.mpr ⟨List.mem_of_getElem? (i := 1038) (by decide +kernel), by decide +kernel⟩
theorem q_dc61 : ∀ e ∈ q_cd61, decode (q_b 61) e.1 = .ok (e.2.2.1, e.2.1) := by decide +kernel
theorem q_ck61 : q_cd61.all (fun e => q_chk 61 e.1 e.2.1 e.2.2.1 e.2.2.2.1 e.2.2.2.2.1 e.2.2.2.2.2) = true := by decide +kernel
theorem q_mok61 : q_mok 61 := q_mk (by decide) q_pc61 (by decide +kernel) (by decide +kernel) rfl (by decide +kernel) q_dc61 q_ck61
theorem q_pc62 : Cond.code (q_y 62) (q_b 62) (q_ml 62) (q_rt 62) ∈ q_w0 := List.mem_filter.mpr ⟨List.mem_of_getElem? (i := 464) (by decide +kernel), by decide +kernel⟩
theorem q_dc62 : ∀ e ∈ q_cd62, decode (q_b 62) e.1 = .ok (e.2.2.1, e.2.1) := by decide +kernel
theorem q_ck62 : q_cd62.all (fun e => q_chk 62 e.1 e.2.1 e.2.2.1 e.2.2.2.1 e.2.2.2.2.1 e.2.2.2.2.2) = true := by decide +kernel
theorem q_mok62 : q_mok 62 := q_mk (by decide) q_pc62 (by decide +kernel) (by decide +kernel) rfl (by decide +kernel) q_dc62 q_ck62
theorem q_pc63 : Cond.code (q_y 63) (q_b 63) (q_ml 63) (q_rt 63) ∈ q_w0 := List.mem_filter.mpr ⟨List.mem_of_getElem? (i := 540) (by decide +kernel), by decide +kernel⟩
theorem q_dc63 : ∀ e ∈ q_cd63, decode (q_b 63) e.1 = .ok (e.2.2.1, e.2.1) := by decide +kernel
theorem q_ck63 : q_cd63.all (fun e => q_chk 63 e.1 e.2.1 e.2.2.1 e.2.2.2.1 e.2.2.2.2.1 e.2.2.2.2.2) = true := by decide +kernel
theorem q_mok63 : q_mok 63 := q_mk (by decide) q_pc63 (by decide +kernel) (by decide +kernel) rfl (by decide +kernel) q_dc63 q_ck63
theorem q_pc64 : Cond.code (q_y 64) (q_b 64) (q_ml 64) (q_rt 64) ∈ q_w0 := List.mem_filter.mpr ⟨List.mem_of_getElem? (i := 544) (by decide +kernel), by decide +kernel⟩
theorem q_dc64 : ∀ e ∈ q_cd64, decode (q_b 64) e.1 = .ok (e.2.2.1, e.2.1) := by decide +kernel
theorem q_ck64 : q_cd64.all (fun e => q_chk 64 e.1 e.2.1 e.2.2.1 e.2.2.2.1 e.2.2.2.2.1 e.2.2.2.2.2) = true := by decide +kernel
theorem q_mok64 : q_mok 64 := q_mk (by decide) q_pc64 (by decide +kernel) (by decide +kernel) rfl (by decide +kernel) q_dc64 q_ck64
theorem q_pc65 : Cond.code (q_y 65) (q_b 65) (q_ml 65) (q_rt 65) ∈ q_w0 := List.mem_filter.mpr ⟨List.mem_of_getElem? (i := 865) (by decide +kernel), by decide +kernel⟩
theorem q_dc65 : ∀ e ∈ q_cd65, decode (q_b 65) e.1 = .ok (e.2.2.1, e.2.1) := by decide +kernel
theorem q_ck65 : q_cd65.all (fun e => q_chk 65 e.1 e.2.1 e.2.2.1 e.2.2.2.1 e.2.2.2.2.1 e.2.2.2.2.2) = true := by decide +kernel
theorem q_mok65 : q_mok 65 := q_mk (by decide) q_pc65 (by decide +kernel) (by decide +kernel) rfl (by decide +kernel) q_dc65 q_ck65
theorem q_pc66 : Cond.code (q_y 66) (q_b 66) (q_ml 66) (q_rt 66) ∈ q_w0 := List.mem_filter.mpr ⟨List.mem_of_getElem? (i := 996) (by decide +kernel), by decide +kernel⟩
theorem q_dc66 : ∀ e ∈ q_cd66, decode (q_b 66) e.1 = .ok (e.2.2.1, e.2.1) := by decide +kernel
theorem q_ck66 : q_cd66.all (fun e => q_chk 66 e.1 e.2.1 e.2.2.1 e.2.2.2.1 e.2.2.2.2.1 e.2.2.2.2.2) = true := by decide +kernel
theorem q_mok66 : q_mok 66 := q_mk (by decide) q_pc66 (by decide +kernel) (by decide +kernel) rfl (by decide +kernel) q_dc66 q_ck66
theorem q_pc67 : Cond.code (q_y 67) (q_b 67) (q_ml 67) (q_rt 67) ∈ q_w0 := List.mem_filter.mpr ⟨List.mem_of_getElem? (i := 1755) (by decide +kernel), by decide +kernel⟩
theorem q_dc67 : ∀ e ∈ q_cd67, decode (q_b 67) e.1 = .ok (e.2.2.1, e.2.1) := by decide +kernel
theorem q_ck67 : q_cd67.all (fun e => q_chk 67 e.1 e.2.1 e.2.2.1 e.2.2.2.1 e.2.2.2.2.1 e.2.2.2.2.2) = true := by decide +kernel
theorem q_mok67 : q_mok 67 := q_mk (by decide) q_pc67 (by decide +kernel) (by decide +kernel) rfl (by decide +kernel) q_dc67 q_ck67
theorem q_pc68 : Cond.code (q_y 68) (q_b 68) (q_ml 68) (q_rt 68) ∈ q_w0 := List.mem_filter.mpr ⟨List.mem_of_getElem? (i := 1900) (by decide +kernel), by decide +kernel⟩
theorem q_dc68 : ∀ e ∈ q_cd68, decode (q_b 68) e.1 = .ok (e.2.2.1, e.2.1) := by decide +kernel
theorem q_ck68 : q_cd68.all (fun e => q_chk 68 e.1 e.2.1 e.2.2.1 e.2.2.2.1 e.2.2.2.2.1 e.2.2.2.2.2) = true := by decide +kernel
theorem q_mok68 : q_mok 68 := q_mk (by decide) q_pc68 (by decide +kernel) (by decide +kernel) rfl (by decide +kernel) q_dc68 q_ck68
theorem q_pc69 : Cond.code (q_y 69) (q_b 69) (q_ml 69) (q_rt 69) ∈ q_w0 := List.mem_filter.mpr ⟨List.mem_of_getElem? (i := 1904) (by decide +kernel), by decide +kernel⟩
theorem q_dc69 : ∀ e ∈ q_cd69, decode (q_b 69) e.1 = .ok (e.2.2.1, e.2.1) := by decide +kernel
theorem q_ck69 : q_cd69.all (fun e => q_chk 69 e.1 e.2.1 e.2.2.1 e.2.2.2.1 e.2.2.2.2.1 e.2.2.2.2.2) = true := by decide +kernel
theorem q_mok69 : q_mok 69 := q_mk (by decide) q_pc69 (by decide +kernel) (by decide +kernel) rfl (by decide +kernel) q_dc69 q_ck69
