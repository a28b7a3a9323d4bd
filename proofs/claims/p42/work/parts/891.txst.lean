/-! ===== the texts at the law's start ===== -/
def tx_F : List Jvm.Cond := flatC (Jvm.Cond.and given_1 narrow_1)
def tx_ix (i : Nat) : Nat := ([219, 210] : List Nat).getD i 0
abbrev tx_tm (i : Nat) : Term := .string "SandNights$Reader" (tx_ix i)
abbrev tx_va (i : Nat) : Term := .field (tx_tm i) "java/lang/String" "value" "[B"
theorem tx_F0 : (List.range 90).map (fun j => Cond.eq (.elem (tx_va 0) (.int (Int32.ofNat j))) (.int ((z_byt.getD 0 []).getD j 0))) = (tx_F.drop 13).take 90 := by decide +kernel
theorem tx_F1 : (List.range 11).map (fun j => Cond.eq (.elem (tx_va 1) (.int (Int32.ofNat j))) (.int ((z_byt.getD 1 []).getD j 0))) = (tx_F.drop 107).take 11 := by decide +kernel
theorem tx_Fx : ∀ i, i < 2 → Cond.exactly (tx_tm i) "java/lang/String" ∈ tx_F ∧ Cond.eq (.field (tx_tm i) "java/lang/String" "coder" "B") (.int 0) ∈ tx_F ∧ Cond.arrayOf (tx_va i) .byte ∈ tx_F ∧ Cond.eq (.length (tx_va i)) (.int (Int32.ofNat (z_lens.getD i 0))) ∈ tx_F := by
  intro i hi
  rcases (show i = 0 ∨ i = 1 by omega) with rfl | rfl
  · exact ⟨List.mem_of_getElem? (i := 9) (by decide +kernel), List.mem_of_getElem? (i := 10) (by decide +kernel), List.mem_of_getElem? (i := 11) (by decide +kernel), List.mem_of_getElem? (i := 12) (by decide +kernel)⟩
  · exact ⟨List.mem_of_getElem? (i := 103) (by decide +kernel), List.mem_of_getElem? (i := 104) (by decide +kernel), List.mem_of_getElem? (i := 105) (by decide +kernel), List.mem_of_getElem? (i := 106) (by decide +kernel)⟩
theorem tx_Fn : Cond.not (Cond.eq (tx_tm 0) (tx_tm 1)) ∈ tx_F := List.mem_of_getElem? (i := 118) (by decide +kernel)
theorem tx_Fc : Cond.eq (.static "java/lang/String" "COMPACT_STRINGS" "Z") (.int 1) ∈ tx_F := List.mem_of_getElem? (i := 4) (by decide +kernel)
theorem tx_Fq : Cond.isRef (.static "jdk/internal/util/Preconditions" "SIOOBE_FORMATTER" "Ljava/util/function/BiFunction;") ∈ tx_F := List.mem_of_getElem? (i := 5) (by decide +kernel)
theorem tx_T0 : Cond.stringRef "SandNights$Reader" 219 "beach by hut walker at stride slip tide wind draw or and not row column minute night trod " ∈ lw_tbl := List.mem_of_getElem? (i := 577) (by decide +kernel)
theorem tx_T1 : Cond.stringRef "SandNights$Reader" 210 ";()<>=+-*/%" ∈ lw_tbl := List.mem_of_getElem? (i := 633) (by decide +kernel)
theorem tx_T2 : Cond.laysStatic "java/lang/String" "COMPACT_STRINGS" "Z" ∈ lw_tbl ∧ Cond.initialized "java/lang/String" ∈ lw_tbl := ⟨List.mem_of_getElem? (i := 587) (by decide +kernel), List.mem_of_getElem? (i := 120) (by decide +kernel)⟩
theorem tx_T3 : Cond.laysStatic "jdk/internal/util/Preconditions" "SIOOBE_FORMATTER" "Ljava/util/function/BiFunction;" ∈ lw_tbl ∧ Cond.initialized "jdk/internal/util/Preconditions" ∈ lw_tbl := ⟨List.mem_of_getElem? (i := 603) (by decide +kernel), List.mem_of_getElem? (i := 122) (by decide +kernel)⟩
theorem tx_st {args : Array Value} {s : State} (hgv : (Jvm.Cond.and given_1 narrow_1).before args s = true) (hts : ∀ w ∈ lw_tbl, w.before args s = true) : ∃ sa : Nat → Nat, z_Tx s.heap.size sa s := by
  have hf : ∀ w ∈ tx_F, w.before args s = true := flat_of_before _ hgv
  have hA : ∀ a : Nat, a < s.heap.size → ¬ q_A s.heap.size a := fun a h => Nat.not_le.mpr h
  have hel : ∀ i : Nat, i < 2 → ∀ j : Nat, j < z_lens.getD i 0 → (Cond.eq (.elem (tx_va i) (.int (Int32.ofNat j))) (.int ((z_byt.getD i []).getD j 0))).before args s = true := fun i hi j hj => by
    rcases (show i = 0 ∨ i = 1 by omega) with rfl | rfl
    · exact hf _ (va_run tx_F0 j hj)
    · exact hf _ (va_run tx_F1 j hj)
  obtain ⟨adK, adV, hvk, hev⟩ := vk_Sof (args := args) (s := s) (N := 2) (tm := tx_tm) (len := z_lens) (byt := z_byt) (A := q_A s.heap.size) (fun i hi => tx_lens hi) (fun i hi => hf _ (tx_Fx i hi).1) (fun i hi => hf _ (tx_Fx i hi).2.1) (fun i hi => hf _ (tx_Fx i hi).2.2.1) (fun i hi => hf _ (tx_Fx i hi).2.2.2) hel (fun i j hi hj hij => by
    rcases (show i = 0 ∨ i = 1 by omega) with rfl | rfl
    · rcases (show j = 0 ∨ j = 1 by omega) with rfl | rfl
      · exact absurd rfl hij
      · exact Or.inl (hf _ tx_Fn)
    · rcases (show j = 0 ∨ j = 1 by omega) with rfl | rfl
      · exact Or.inr (hf _ tx_Fn)
      · exact absurd rfl hij) hA
  exact ⟨adK, ⟨adV, hvk⟩, vk_R.of (hts _ tx_T0) (hev 0 (by decide)), vk_R.of (hts _ tx_T1) (hev 1 (by decide)), va_Zof (hts _ tx_T2.1) (hts _ tx_T2.2) (va_eqt (hf _ tx_Fc)) hA, va_Zqof (hts _ tx_T3.1) (hts _ tx_T3.2) (hf _ tx_Fq) hA⟩
