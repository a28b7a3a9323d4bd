/-! ===== the law: a call with a yes or no ===== -/
def q_bd (pc : Nat) : Bool := q_ad5 pc 3 && (q_dk (pc + 5) (.ifCond .eq 7) 3 && (q_dk (pc + 5 + 3) (.iconst 1) 1 && (q_dk (pc + 5 + 3 + 1) (.goto 4) 3 && q_dk (pc + 12) (.iconst 0) 1)))
def q_opb (pc idx1 idx2 : Nat) : Bool := q_dk pc (.aload_n 1) 1 && ((List.range 2).all (fun j => q_ad5 (pc + 1 + 5 * j) (1 + j)) && (q_bd (pc + 1 + 5 * 2) && (q_dk (pc + 1 + 5 * 2 + 13) (.invokevirtual idx1) 3 && (q_dk (pc + 1 + 5 * 2 + 13 + 3) (.aload_n 2) 1 && ((List.range 2).all (fun j => q_ad5 (pc + 1 + 5 * 2 + 13 + 3 + 1 + 5 * j) (1 + j)) && (q_bd (pc + 1 + 5 * 2 + 13 + 3 + 1 + 5 * 2) && (q_dk (pc + 1 + 5 * 2 + 13 + 3 + 1 + 5 * 2 + 13) (.invokevirtual idx2) 3 && q_dk (pc + 1 + 5 * 2 + 13 + 3 + 1 + 5 * 2 + 13 + 3) (.if_icmp .eq (1599 - ((pc + 1 + 5 * 2 + 13 + 3 + 1 + 5 * 2 + 13 + 3 : Nat) : Int))) 3)))))))
section QL
variable {p : Program} {l : Launch} {e : Env} {s : State} {m : MethodId} {below : List Frame} {meth : Method} {c : Code} {b : Nat} {xs : Nat → Int32} {H : Heap} {locs : List Loc} {cells slots : Nat} {Q : State → Prop} {ls : Array Slot} {D : va_G}
theorem q_lbool (C0 : lw_At p s m meth c b 6 xs) (hS : va_S (q_A s.heap.size) s.heap H locs) {ax am : Nat} (hl : lv_has ls 4 (q_lv b ax am)) {pc bv : Nat} {rest : List Value} (hd : q_bd pc = true) (hbv : bv = if xs 3 = 0 then 0 else 1) (kk : W p l e room_1 s m #[Value.ref b] below meth c H locs cells slots Q (F0 m (pc + 13) ls (.int (nI bv) :: rest))) : W p l e room_1 s m #[Value.ref b] below meth c H locs cells slots Q (F0 m pc ls rest) := by
  obtain ⟨d1, hd⟩ := q_ands hd
  obtain ⟨d2, hd⟩ := q_ands hd
  obtain ⟨d3, hd⟩ := q_ands hd
  obtain ⟨d4, d5⟩ := q_ands hd
  have hx := C0.1
  have hb := C0.2.1
  refine q_larg C0 hS hl (by decide) d1 ?_
  refine lv_if_eq (tgt := pc + 12) hx hb (of_decide_eq_true d2) (by omega) (fun h0 => ?_) (fun h0 => ?_)
  · rw [if_pos h0] at hbv
    subst hbv
    refine lv_iconst (v := nI 0) hx hb (of_decide_eq_true d5) (by decide) ?_
    exact kk
  · rw [if_neg h0] at hbv
    subst hbv
    refine lv_iconst (v := nI 1) hx hb (of_decide_eq_true d3) (by decide) ?_
    refine lv_goto (tgt := pc + 13) hx hb (of_decide_eq_true d4) (by omega) ?_
    exact kk
theorem q_lopb {mem : q_M} (C0 : lw_At p s m meth c b 6 xs) (hX2 : q_X s) (hmem : ∀ e ∈ mem, q_Met l s.heap.size D xs 5 e.1 e.2.1 e.2.2.1 e.2.2.2.1 e.2.2.2.2) {i1 i2 idx1 idx2 pc bv : Nat} (hbv : bv = if xs 3 = 0 then 0 else 1) (hop : q_Op mem i1 i2 xs (q_xa xs 2 1 ++ [.int (nI bv)])) (hi1 : i1 < q_nM) (hi2 : i2 < q_nM) (hlk1 : Cond.methodLink R_law idx1 (q_y i1) ∈ lw_tbl) (hlk2 : Cond.methodLink R_law idx2 (q_y i2) ∈ lw_tbl) (hnum : (Nat.beq (q_np i1) 3 && (Nat.beq (q_np i2) 3 && (Nat.beq (q_kn i1) 1 && (Nat.beq (q_kn i2) 1 && (Nat.beq (q_on i1) 8 && (Nat.beq (q_on i2) 9 && (Nat.ble 4 (q_ml i1) && Nat.ble 4 (q_ml i2)))))))) = true) (hdec : q_opb pc idx1 idx2 = true)
    {ws : va_W} {tys : List (ClassId × FieldType)} (hw : q_W xs q_h0 ws tys) (hP : va_P D q_cls ws H) (hK : va_K D q_cls tys s) (hD : va_D (q_A s.heap.size) ws) (hS : va_S (q_A s.heap.size) s.heap H locs) {ax am : Nat} (hax : (q_ad ws)[0]? = some ax) (ham : (q_ad ws)[48]? = some am) (hl : lv_has ls 4 (q_lv b ax am)) (hcl : cells ≤ 96) (hsl : slots ≤ q_ss q_h0)
    (kk : ∀ (H1 : Heap) (locs1 : List Loc) (cells1 slots1 : Nat), cells1 ≤ 600000 → slots1 ≤ 7302250 → va_S (q_A s.heap.size) s.heap H1 locs1 → W p l e room_1 s m #[Value.ref b] below meth c H1 locs1 cells1 slots1 Q (F0 m 1599 ls [])) : W p l e room_1 s m #[Value.ref b] below meth c H locs cells slots Q (F0 m pc ls []) := by
  obtain ⟨rg, codes, hrg, hcs, hno, htwo⟩ := hop
  obtain ⟨h1, h2, v, hv, hss2, hh2, hkd2, hr1, hr2⟩ := q_two_ok htwo
  obtain ⟨n1, hnum⟩ := q_ands hnum
  obtain ⟨n2, hnum⟩ := q_ands hnum
  obtain ⟨n3, hnum⟩ := q_ands hnum
  obtain ⟨n4, hnum⟩ := q_ands hnum
  obtain ⟨n5, hnum⟩ := q_ands hnum
  obtain ⟨n6, hnum⟩ := q_ands hnum
  obtain ⟨n7, n8⟩ := q_ands hnum
  have n1 := q_beq.mp n1
  have n2 := q_beq.mp n2
  have n5 := q_beq.mp n5
  have n6 := q_beq.mp n6
  have n7 := q_ble.mp n7
  have n8 := q_ble.mp n8
  have hcl2 : codes.length = 3 := by rw [← hcs.len]; rfl
  have hno1 : ∀ c ∈ 4294967328 :: codes, ¬ c = 4294967314 := fun c hc => by
    rcases List.mem_cons.mp hc with rfl | hc
    · decide
    · exact hno c hc
  have hno2 : ∀ c ∈ 4294967376 :: codes, ¬ c = 4294967314 := fun c hc => by
    rcases List.mem_cons.mp hc with rfl | hc
    · decide
    · exact hno c hc
  have hM1 := q_all (l := l) (base := s.heap.size) (D := D) hrg q_clok_ok q_okm q_ho1 q_ho2 hmem 400000 10 i1 (4294967328 :: codes) q_h0 h1 [v] hi1 (by rw [List.length_cons, hcl2]; exact n7) hno1 hr1
  have hM2 := q_all (l := l) (base := s.heap.size) (D := D) hrg q_clok_ok q_okm q_ho1 q_ho2 hmem 400000 10 i2 (4294967376 :: codes) h1 h2 [v] hi2 (by rw [List.length_cons, hcl2]; exact n8) hno2 hr2
  obtain ⟨d1, hdec⟩ := q_ands hdec
  obtain ⟨d2, hdec⟩ := q_ands hdec
  obtain ⟨d8, hdec⟩ := q_ands hdec
  obtain ⟨d3, hdec⟩ := q_ands hdec
  obtain ⟨d4, hdec⟩ := q_ands hdec
  obtain ⟨d5, hdec⟩ := q_ands hdec
  obtain ⟨d9, hdec⟩ := q_ands hdec
  obtain ⟨d6, d7⟩ := q_ands hdec
  have hx := C0.1
  have hb := C0.2.1
  have m1 := hM1.1
  have m2 := hM2.1
  have k0 := q_kd0
  refine lv_aload_n hx hb (of_decide_eq_true d1) rfl (lv_at hl 2 rfl) ?_
  refine q_largs C0 hS hl 2 1 (pc + 1) [.ref ax] (by omega) (fun j hj => List.all_eq_true.mp d2 j (List.mem_range.mpr hj)) ?_
  refine q_lbool C0 hS hl d8 hbv ?_
  refine q_lcall (z := 8) (k := 0) (nl := 0) (As := q_xa xs 2 1 ++ [Value.int (nI bv)]) (rest := []) C0 hX2 hv hi1 hM1 hlk1 (by rw [n1]; rfl) n3 (by decide) n5 k0.1 (by rw [k0.2.2]; decide) hw hP hK hD hS (q_S0 hcs) hax hl.1 (by simp) (of_decide_eq_true d3) (by omega) (by omega) (fun ws1 tys1 H1 locs1 g1 g2 g3 g4 g5 g6 => ?_)
  refine lv_aload_n hx hb (of_decide_eq_true d4) rfl (lv_at hl 1 rfl) ?_
  refine q_largs C0 g6 hl 2 1 _ [.ref am, .int (nI v)] (by omega) (fun j hj => List.all_eq_true.mp d5 j (List.mem_range.mpr hj)) ?_
  refine q_lbool C0 g6 hl d9 hbv ?_
  refine q_lcall (z := 9) (k := 48) (nl := 0) (As := q_xa xs 2 1 ++ [Value.int (nI bv)]) (rest := [.int (nI v)]) C0 hX2 hv hi2 hM2 hlk2 (by rw [n2]; rfl) n4 (by decide) n6 hkd2 (by omega) g2 g3 g4 g5 g6 (q_S0 hcs) (q_at_mono g1 ham) hl.1 (by simp [Value.category]) (of_decide_eq_true d6) (by omega) (by omega) (fun ws2 tys2 H2 locs2 f1 f2 f3 f4 f5 f6 => ?_)
  refine lv_icmp_eq (tgt := 1599) hx hb (of_decide_eq_true d7) (by omega) (fun _ => ?_) (fun hne => absurd rfl hne)
  exact kk H2 locs2 _ _ (by omega) (by omega) f6
end QL
