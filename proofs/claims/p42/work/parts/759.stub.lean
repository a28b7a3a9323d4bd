/-! ===== method by method: the bytes decode to the table's instructions, the links are what they say ===== -/
theorem q_mk {i : Nat} {cd : List q_I} (hi : i < q_nM) (hc : Cond.code (q_y i) (q_b i) (q_ml i) (q_rt i) ∈ q_w0) (hpl : plainFor (q_y i) = true) (hch : q_chn cd = true) (hcd : q_code i = cd) (hhd : (match cd with | [] => false | e :: _ => Nat.beq e.1 0) = true) (hdc : ∀ e ∈ cd, decode (q_b i) e.1 = .ok (e.2.2.1, e.2.1)) (hck : cd.all (fun e => q_chk i e.1 e.2.1 e.2.2.1 e.2.2.2.1 e.2.2.2.2.1 e.2.2.2.2.2) = true) : q_mok i := by
  have hm := q_ml_ok i hi
  refine ⟨hc, hpl, q_wat_ok (q_pi_ok i hi), hm.2.1, hm.2.2, hm.1, by rw [hcd]; exact hch, ?_, fun e he => ?_⟩
  · rw [hcd]
    cases cd with
    | nil => cases hhd
    | cons e t => exact ⟨e, rfl, q_beq.mp hhd⟩
  · rw [hcd] at he
    exact ⟨hdc e he, q_chk_ok hi (List.all_eq_true.mp hck e he)⟩
theorem q_okm : ∀ i, i < q_nM → q_mok i := sorry
