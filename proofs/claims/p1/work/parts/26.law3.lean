/-! ===== the law: its beginning, its loop's head, its end ===== -/
/-- the law's own end, with 1 on the stack, nothing written that was there before, its room as the claim has it -/
theorem lw_ret {p : Program} {l : Launch} {e : Env} {s : State} {m : MethodId} {below : List Frame} {meth : Method} {c : Code} {b : Nat} (hx : p.tables.exec = Jvm.exec) (hb : c.code = code) (hr : meth.sig.returnType = ret) (hlocks : meth.locks = false) {pc : Nat} {H : Heap} {ls : Array Slot} (hdg : decode code pc = .ok (.ireturn, 1)) : W p l e room_1 s m #[Value.ref b] below meth c H [] 600000 7302250 (lw_Z below #[Value.ref b] s) (F0 m pc ls [.int 1]) := by
  intro T hT X
  obtain ⟨fs, hret, hrun, hended, hW, hframe⟩ := X.leave (v := some (.int 1)) (hlocks := hlocks) (fun h => by rw [hr] at h; cases h)
  have hmeth' : T.vm.method? m = some meth := X.method'
  refine ⟨T.setFrames fs, ?_, .returned (some (.int 1)), hrun, hended, rfl, ⟨_, rfl⟩, hW, hframe⟩
  jvm_step X.here [X.here.top, hx, hb, hdg, hmeth', hr, ret, narrow_b1]
  (try refine ⟨rfl, ?_⟩); (try refine ⟨rfl, ?_⟩)
  first | (intro acts; rw [hret _ acts rfl rfl rfl]) | rw [hret _ _ rfl rfl rfl]
  exact Steps.refl _
theorem q_l18 : decode code 18 = .ok (.iload_n 3, 1) := by decide +kernel
theorem q_l19 : decode code 19 = .ok (.aload_n 0, 1) := by decide +kernel
theorem q_l20 : decode code 20 = .ok (.arraylength, 1) := by decide +kernel
theorem q_l21 : decode code 21 = .ok (.bipush 6, 2) := by decide +kernel
theorem q_l23 : decode code 23 = .ok (.isub, 1) := by decide +kernel
theorem q_l24 : decode code 24 = .ok (.if_icmp .gt 1581, 3) := by decide +kernel
theorem q_l1599 : decode code 1599 = .ok (.iinc 3 6, 3) := by decide +kernel
theorem q_l1602 : decode code 1602 = .ok (.goto (-1584), 3) := by decide +kernel
theorem q_l1605 : decode code 1605 = .ok (.iconst 1, 1) := by decide +kernel
theorem q_l1606 : decode code 1606 = .ok (.ireturn, 1) := by decide +kernel
theorem q_lt6 : ∀ L : Nat, L < 6 → nI L - 6 < 0 := by decide +kernel
theorem q_le6 : ∀ L : Nat, L ≤ 6 → nI L - 6 < 6 := by decide +kernel
section QL
variable {p : Program} {l : Launch} {e : Env} {s : State} {m : MethodId} {below : List Frame} {meth : Method} {c : Code} {b L : Nat} {xs : Nat → Int32} {H : Heap} {locs : List Loc} {cells slots : Nat} {ls : Array Slot}
theorem q_lexit (C0 : lw_At p s m meth c b L xs) (hS : va_S (q_A s.heap.size) s.heap H locs) (hc : cells ≤ 600000) (hs : slots ≤ 7302250) : W p l e room_1 s m #[Value.ref b] below meth c H locs cells slots (lw_Z below #[Value.ref b] s) (F0 m 1605 ls []) := by
  obtain ⟨hx, hb, hr, hml, hown, hts, hX, hbl, hlocks, hgv⟩ := C0
  refine lv_iconst (v := 1) hx hb q_l1605 (by decide) ?_
  refine va_forget (fun q hq => hS.2.2 q hq) ?_
  refine W.widen (k := 600000) (n := 7302250) hc hs ?_
  exact lw_ret hx hb hr hlocks q_l1606
/-- the loop's head with i: it ends where L - 6 is below i -/
theorem q_lhead (C0 : lw_At p s m meth c b L xs) (hS : va_S (q_A s.heap.size) s.heap H locs) {i : Int32} {lv : List (Nat × Value)} (hl : lv_has ls 4 lv) (h3 : (3, Value.int i) ∈ lv) (h0 : (0, Value.ref b) ∈ lv) (hc : cells ≤ 600000) (hs : slots ≤ 7302250)
    (kk : ¬ nI L - 6 < i → W p l e room_1 s m #[Value.ref b] below meth c H locs cells slots (lw_Z below #[Value.ref b] s) (F0 m 27 ls [])) : W p l e room_1 s m #[Value.ref b] below meth c H locs cells slots (lw_Z below #[Value.ref b] s) (F0 m 18 ls []) := by
  obtain ⟨hx, hb, hr, hml, hown, hts, hX, hbl, hlocks, hgv⟩ := id C0
  have hbA : ¬ q_A s.heap.size b := Nat.not_le.mpr hbl
  refine lv_iload_n hx hb q_l18 rfl (hl.2.2 _ h3) ?_
  refine lv_aload_n hx hb q_l19 rfl (hl.2.2 _ h0) ?_
  refine va_slen hx hb hX hbl hbA hS q_l20 ?_
  refine lv_bipush (v := 6) hx hb q_l21 (by decide) ?_
  refine lv_isub hx hb q_l23 ?_
  refine lv_icmp_gt (tgt := 1605) hx hb q_l24 (by decide) (fun _ => q_lexit C0 hS hc hs) (fun hn => kk hn)
theorem q_lend (hL : L ≤ 6) (C0 : lw_At p s m meth c b L xs) (hS : va_S (q_A s.heap.size) s.heap H locs) {ax am : Nat} (hl : lv_has ls 4 (q_lv b ax am)) (hc : cells ≤ 600000) (hs : slots ≤ 7302250) : W p l e room_1 s m #[Value.ref b] below meth c H locs cells slots (lw_Z below #[Value.ref b] s) (F0 m 1599 ls []) := by
  have hx := C0.1
  have hb := C0.2.1
  refine lv_iinc (v := 6) (lv' := [(3, .int 6), (2, .ref am), (1, .ref ax), (0, .ref b)]) hx hb q_l1599 hl (k := 0) rfl (by decide) (by decide) rfl (fun ls hl => ?_)
  refine lv_goto (tgt := 18) hx hb q_l1602 (by decide) ?_
  refine q_lhead C0 hS hl (List.mem_cons_self) (by simp) hc hs (fun hn => absurd (q_le6 L hL) hn)
end QL
theorem q_newc (env : Nat → Int32) (ad : List Nat) (tys : List (ClassId × FieldType)) (x y z : Nat) (hd : (List.range y).all (fun j => q_dty (q_get z j) ((q_fty.getD x (fun _ => .int)) j)) = true) : q_c env ad tys (2 * x, y, z) (.inr (x, (List.range y).map (fun j => defaultValue ((q_fty.getD x (fun _ => .int)) j)))) := by
  refine Or.inl ⟨x, _, rfl, rfl, by rw [List.length_map, List.length_range], fun j v hv => ?_⟩
  have hj : j < y := by
    have := (List.getElem?_eq_some_iff.mp hv).1
    rw [List.length_map, List.length_range] at this
    exact this
  rw [List.getElem?_map, List.getElem?_range hj] at hv
  have hv : defaultValue ((q_fty.getD x (fun _ => .int)) j) = v := Option.some.inj hv
  have h4 := List.all_eq_true.mp hd j (List.mem_range.mpr hj)
  show q_get z j = 4294967313 ∨ q_v env ad (q_get z j) v
  generalize (q_fty.getD x (fun _ => FieldType.int)) j = ty at h4 hv
  cases ty with
  | int => subst hv; rw [q_beq.mp h4]; exact Or.inr (q_v.exq ad (Nat.zero_le _) nI_0.symm)
  | boolean => subst hv; rw [q_beq.mp h4]; exact Or.inr (q_v.exq ad (Nat.zero_le _) nI_0.symm)
  | object c => subst hv; rw [q_beq.mp h4]; exact Or.inr (Or.inr (Or.inr (Or.inr (Or.inl ⟨rfl, rfl⟩))))
  | array c => subst hv; rw [q_beq.mp h4]; exact Or.inr (Or.inr (Or.inr (Or.inr (Or.inl ⟨rfl, rfl⟩))))
  | long => exact Or.inl (q_beq.mp h4)
  | _ => cases h4
theorem q_full (env : Nat → Int32) : q_rgs env (fun _ => (0, 4294967295)) := fun i _ => ⟨Nat.zero_le _, q_qb_hi _⟩
