/-! ===== the JDK's texts: their methods as contracts ===== -/
def tx_Tx (base : Nat) (sa adV : Nat → Nat) (U : State) : Prop := vk_S 2 z_lens z_byt sa adV (q_A base) U U.heap ∧ va_Z "java/lang/String" "COMPACT_STRINGS" "Z" (.int 1) (q_A base) U U.heap ∧ va_Zq "jdk/internal/util/Preconditions" "SIOOBE_FORMATTER" "Ljava/util/function/BiFunction;" (q_A base) U U.heap
theorem tx_Tx.go {base : Nat} {sa adV : Nat → Nat} {s U : State} {H : Heap} {locs : List Loc} (h : tx_Tx base sa adV s) (hW : s.WarmedH U.vm) (hU : U.heap = H) (hS : va_S (q_A base) s.heap H locs) : tx_Tx base sa adV U := by
  obtain ⟨h1, h4, h5⟩ := h
  subst hU
  exact ⟨vk_S.moved hW.alike (h1.kept hS.2.1), va_Z.moved hW.alike (h4.kept hS.2.1), va_Zq.moved hW.alike (h5.kept hS.2.1)⟩
def tx_Pc (base : Nat) (sa adV : Nat → Nat) (av : List Value) : Array Value → State → Prop := va_Pc av (fun U => base ≤ U.heap.size ∧ tx_Tx base sa adV U)
def tx_Qc (post : Option Value → Prop) : Array Value → State → Outcome → State → Prop := fun _ st oc t => (∃ v, oc = .returned v ∧ post v) ∧ t.heap = st.heap
def tx_wy (y : MethodName) (b : ByteArray) (ml : Nat) (rt : Option FieldType) : List Cond := Cond.code y b ml rt :: q_w0
def tx_Met (l : Launch) (base : Nat) (sa adV : Nat → Nat) (d : Nat) (y : MethodName) (b : ByteArray) (ml : Nat) (rt : Option FieldType) (av : List Value) (post : Option Value → Prop) : Prop := Met l y (tx_wy y b ml rt) (q_rm d 0 0) (tx_Pc base sa adV av) (tx_Qc post) 0 0 (q_A base)
theorem tx_blind {base : Nat} {sa adV : Nat → Nat} {av : List Value} : FrameBlind (tx_Pc base sa adV av) := by
  intro a U g mk q
  obtain ⟨q0, q1, x1, x4, x5⟩ := q
  exact ⟨q0, q1, vk_S.moved (u := U) (U := U.calling g mk a) (Vm.Alike.refl U.vm) x1, va_Z.moved (u := U) (U := U.calling g mk a) (Vm.Alike.refl U.vm) x4, va_Zq.moved (u := U) (U := U.calling g mk a) (Vm.Alike.refl U.vm) x5⟩
theorem tx_goodIn {y : MethodName} {b : ByteArray} {ml : Nat} {rt : Option FieldType} (h : Cond.code y b ml rt ∈ q_w0) : GoodIn q_w0 (tx_wy y b ml rt) := by
  intro w hw
  have hm : w ∈ q_w0 := by
    rcases List.mem_cons.mp hw with rfl | hw
    · exact h
    · exact hw
  exact ⟨hm, good_of_word (List.mem_filter.mp hm).2⟩
/-- where a walk of a member stands -/
def tx_Cx (base : Nat) (sa adV : Nat → Nat) (y : MethodName) (b : ByteArray) (ml : Nat) (rt : Option FieldType) (p : Program) (s : State) (m : MethodId) (args : Array Value) (meth : Method) (c : Code) : Prop := CallFix p m c b ml s args q_w0 y.cls ∧ meth.sig.returnType = rt ∧ tx_Tx base sa adV s ∧ meth.locks = false ∧ base ≤ s.heap.size
theorem tx_meth {l : Launch} {base : Nat} {sa adV : Nat → Nat} {d : Nat} {y : MethodName} {b : ByteArray} {ml : Nat} {rt : Option FieldType} {av : List Value} {post : Option Value → Prop} (hy : plainFor y = true) (hk : ∀ (p : Program) (e : Env) (s : State) (m : MethodId) (below : List Frame) (meth : Method) (c : Code), tx_Cx base sa adV y b ml rt p s m av.toArray meth c → W p l e (q_rm d 0 0) s m av.toArray below meth c s.heap [] 0 0 (MQ below (tx_Qc post) av.toArray s 0 0 (q_A base)) (entryFrame m av.toArray ml)) : tx_Met l base sa adV d y b ml rt av post := by
  refine va_MetF (cc := b) (maxL := ml) (ret := rt) hy rfl ?_
  intro p e s m args below meth c s₁ B hml hv
  obtain ⟨rfl, hbase, hT⟩ := hv
  have hts := atoms_spec (ws := tx_wy y b ml rt) B.pre
  have hown : s.vm.findClass y.cls = some m.cls := findClass_of_methodNamed B.named
  exact hk p e s m below meth c ⟨⟨B.exec, B.bytes, hml, hown, fun w hw => hts w (List.mem_cons_of_mem _ hw)⟩, B.returns, hT, B.notSynchronized, hbase⟩
section TW
variable {p : Program} {l : Launch} {e : Env} {R : Room} {s : State} {m : MethodId} {args : Array Value} {below : List Frame} {meth : Method} {c : Code} {H : Heap} {locs : List Loc} {cells slots : Nat} {Q : State → Prop} {base : Nat} {sa adV : Nat → Nat} {post : Option Value → Prop}
theorem tx_after {pc : Nat} {ls : Array Slot} {st0 rest : List Value} {a : Array Value} (hr : va_Run p l e R s m args below meth c H locs cells slots 0 0 (F0 m pc ls st0) rest (tx_Qc post a) (q_A base)) (hS : va_S (q_A base) s.heap H locs)
    (kk : ∀ (v : Option Value) (locs1 : List Loc), post v → va_S (q_A base) s.heap H locs1 → W p l e R s m args below meth c H locs1 cells slots Q (F0 m (pc + 3) ls (v.toList ++ rest))) : W p l e R s m args below meth c H locs cells slots Q (F0 m pc ls st0) := by
  intro T hT X
  obtain ⟨v, st₀, t, T', L, h0, X', hL, e1, e2, ⟨⟨v2, ho, hp⟩, hh⟩, st⟩ := hr T hT X
  cases ho
  obtain ⟨t2, a1, b1⟩ := kk v (locs ++ L) hp ⟨hS.1, hS.2.1, fun q hq => by
      rcases List.mem_append.mp hq with h | h
      · exact hS.2.2 q h
      · exact hL q h⟩ T' (by rw [e1, hh, h0]) X'
  exact ⟨t2, st t2 a1, b1⟩
theorem tx_virt {own : String} {cc : ByteArray} {nL : Nat} (S : CallFix p m c cc nL s args q_w0 own) (hT : tx_Tx base sa adV s) (hb : base ≤ s.heap.size) {d2 : Nat} {y2 : MethodName} {b2 : ByteArray} {ml2 : Nat} {rt2 : Option FieldType} {a : Nat} {As rest : List Value} {index pc : Nat} {ls : Array Slot} (hM : tx_Met l base sa adV d2 y2 b2 ml2 rt2 (.ref a :: As) post) (hcode : Cond.code y2 b2 ml2 rt2 ∈ q_w0) (hini : Cond.initialized y2.cls ∈ q_w0) (hlk : Cond.methodLink own index y2 ∈ q_w0) (hin : Cond.instanceMethod y2 ∈ q_w0) (hsel : Cond.selects y2.cls y2 y2 ∈ q_w0) (hcls : y2.cls ≠ "java/lang/invoke/MethodHandle" ∧ y2.cls ≠ "java/lang/invoke/VarHandle" ∧ (parseMethodDescriptor y2.desc).map (fun d => d.parameters.length) = some As.length) (hR : d2 + 1 ≤ R.frames ∧ 8 + (ml2 + 11) + 40 * d2 ≤ R.locals) (hR2 : cells ≤ R.cells ∧ slots ≤ R.slots) (hrecv : ∃ cell : Cell, H[a]? = some cell ∧ cell.vm.isStatics = false ∧ s.vm.findClass y2.cls = some cell.cls) (hS : va_S (q_A base) s.heap H locs) (hls : ls.size = nL) (hrest : (rest.map fun v => v.category).sum ≤ 8) (hd : decode cc pc = .ok (.invokevirtual index, 3))
    (kk : ∀ (v : Option Value) (locs1 : List Loc), post v → va_S (q_A base) s.heap H locs1 → W p l e R s m args below meth c H locs1 cells slots Q (F0 m (pc + 3) ls (v.toList ++ rest))) : W p l e R s m args below meth c H locs cells slots Q (F0 m pc ls (As.reverse ++ .ref a :: rest)) :=
  tx_after (va_runV (Ts := q_w0) (own := own) (C := y2.cls) (nL := nL) (As := As) (b := a) S hM ⟨callB_of As.length S.2.2.2.2 (tx_goodIn hcode) rfl rfl rfl (S.2.2.2.2 _ hini) (S.2.2.2.2 _ hlk) hcls ⟨hR.1, hR.2⟩, S.2.2.2.2 _ hin, S.2.2.2.2 _ hsel⟩ ⟨tx_blind, hrecv, fun U hU hW => ⟨rfl, by rw [hU]; exact Nat.le_trans hb hS.1, hT.go hW hU hS⟩⟩ rfl rfl hls rfl (lv_room hrest) hd hR2) hS kk
theorem tx_stat {own : String} {cc : ByteArray} {nL : Nat} (S : CallFix p m c cc nL s args q_w0 own) (hT : tx_Tx base sa adV s) (hb : base ≤ s.heap.size) {d2 : Nat} {y2 : MethodName} {b2 : ByteArray} {ml2 : Nat} {rt2 : Option FieldType} {As rest : List Value} {index pc : Nat} {ls : Array Slot} (hM : tx_Met l base sa adV d2 y2 b2 ml2 rt2 As post) (hcode : Cond.code y2 b2 ml2 rt2 ∈ q_w0) (hini : Cond.initialized y2.cls ∈ q_w0) (hlk : Cond.methodLink own index y2 ∈ q_w0) (hst : Cond.static y2 ∈ q_w0) (hcls : y2.cls ≠ "java/lang/invoke/MethodHandle" ∧ y2.cls ≠ "java/lang/invoke/VarHandle" ∧ (parseMethodDescriptor y2.desc).map (fun d => d.parameters.length) = some As.length) (hR : d2 + 1 ≤ R.frames ∧ 8 + (ml2 + 11) + 40 * d2 ≤ R.locals) (hR2 : cells ≤ R.cells ∧ slots ≤ R.slots) (hS : va_S (q_A base) s.heap H locs) (hls : ls.size = nL) (hrest : (rest.map fun v => v.category).sum ≤ 8) (hd : decode cc pc = .ok (.invokestatic index, 3))
    (kk : ∀ (v : Option Value) (locs1 : List Loc), post v → va_S (q_A base) s.heap H locs1 → W p l e R s m args below meth c H locs1 cells slots Q (F0 m (pc + 3) ls (v.toList ++ rest))) : W p l e R s m args below meth c H locs cells slots Q (F0 m pc ls (As.reverse ++ rest)) :=
  tx_after (va_runS (Ts := q_w0) (own := own) (nL := nL) (As := As) S hM ⟨callB_of As.length S.2.2.2.2 (tx_goodIn hcode) rfl rfl rfl (S.2.2.2.2 _ hini) (S.2.2.2.2 _ hlk) hcls ⟨hR.1, hR.2⟩, S.2.2.2.2 _ hst⟩ ⟨tx_blind, fun U hU hW => ⟨rfl, by rw [hU]; exact Nat.le_trans hb hS.1, hT.go hW hU hS⟩⟩ rfl rfl hls rfl (lv_room hrest) hd hR2) hS kk
theorem tx_ret {y : MethodName} {b : ByteArray} {ml : Nat} {rt : Option FieldType} {ty : FieldType} (C : tx_Cx base sa adV y b ml rt p s m args meth c) (hS : va_S (q_A base) s.heap s.heap locs) {x : Int32} (hrt : rt = some ty) (hn : narrow ty (.int x) = .int x) (hp : post (some (.int x))) {pc : Nat} {ls : Array Slot} (hd : decode b pc = .ok (.ireturn, 1)) : W p l e R s m args below meth c s.heap locs 0 0 (MQ below (tx_Qc post) args s 0 0 (q_A base)) (F0 m pc ls [.int x]) :=
  W.zret C.1.1 C.1.2.1 (C.2.1.trans hrt) hn (fun _ ht _ => ⟨⟨_, rfl, hp⟩, ht⟩) hS.2.2 hd C.2.2.2.1
end TW
/-- what a text's members want of the state, at their first instruction -/
theorem tx_in1 {sa adV : Nat → Nat} {base i : Nat} {s : State} (h : tx_Tx base sa adV s) (hi : i < 2) : va_OF "java/lang/String" "coder" "B" (.int 0) (sa i) (q_A base) s s.heap ∧ va_OF "java/lang/String" "value" "[B" (.ref (adV i)) (sa i) (q_A base) s s.heap ∧ va_T .byte (adV i) (z_lens.getD i 0) (fun j => .int ((z_byt.getD i []).getD j 0)) (q_A base) s s.heap := (h.1.1 i hi).2
theorem tx_lens {i : Nat} (hi : i < 2) : z_lens.getD i 0 < 2 ^ 31 := by
  rcases (show i = 0 ∨ i = 1 by omega) with rfl | rfl <;> decide
section TM
variable {l : Launch} {base : Nat} {sa adV : Nat → Nat} {i : Nat}
/-- coder() -/
theorem tx_m0 (hi : i < 2) : tx_Met l base sa adV 0 tx_y0 tx_b0 1 tx_r0 [.ref (sa i)] (fun v => v = some (.int 0)) := by
  refine tx_meth (by decide +kernel) (fun p e s m below meth c C => ?_)
  obtain ⟨⟨hx, hb, hml, hown, hw⟩, hret, hT, hlk, hbase⟩ := id C
  obtain ⟨g1, g2, g3⟩ := tx_in1 hT hi
  have hS : va_S (q_A base) s.heap s.heap [] := va_S.rf
  have hl := lv_entry ([.ref (sa i)]) (n := 1) (Nat.le_of_ble_eq_true rfl)
  rw [lg_entry_eq]
  generalize (lg_sl ([.ref (sa i)]) ++ List.replicate (1 - (lg_sl ([.ref (sa i)])).length) Slot.unset).toArray = ls at hl ⊢
  have hl : lv_has ls 1 [(0, .ref (sa i))] := hl
  refine va_gets hx hb (ref := "java/lang/String") hT.2.1 hS hown (hw _ tx_fs) (fun _ h => h) tx_d0_0 ?_
  refine lv_if_eq (tgt := 13) hx hb tx_d0_3 (by decide) (fun h => absurd h (by decide)) (fun _ => ?_)
  refine lv_aload_n hx hb tx_d0_6 rfl (lv_at hl 0 rfl) ?_
  refine vk_getf hx hb (ref := "java/lang/String") g1 hS hown (hw _ tx_fc) (fun _ h => h) tx_d0_7 ?_
  refine lv_goto (tgt := 14) hx hb tx_d0_10 (by decide) ?_
  refine tx_ret C hS rfl ?_ ?_ tx_d0_14
  · decide
  · exact rfl
/-- isLatin1() -/
theorem tx_m1 (hi : i < 2) : tx_Met l base sa adV 0 tx_y1 tx_b1 1 tx_r1 [.ref (sa i)] (fun v => v = some (.int 1)) := by
  refine tx_meth (by decide +kernel) (fun p e s m below meth c C => ?_)
  obtain ⟨⟨hx, hb, hml, hown, hw⟩, hret, hT, hlk, hbase⟩ := id C
  obtain ⟨g1, g2, g3⟩ := tx_in1 hT hi
  have hS : va_S (q_A base) s.heap s.heap [] := va_S.rf
  have hl := lv_entry ([.ref (sa i)]) (n := 1) (Nat.le_of_ble_eq_true rfl)
  rw [lg_entry_eq]
  generalize (lg_sl ([.ref (sa i)]) ++ List.replicate (1 - (lg_sl ([.ref (sa i)])).length) Slot.unset).toArray = ls at hl ⊢
  have hl : lv_has ls 1 [(0, .ref (sa i))] := hl
  refine va_gets hx hb (ref := "java/lang/String") hT.2.1 hS hown (hw _ tx_fs) (fun _ h => h) tx_d1_0 ?_
  refine lv_if_eq (tgt := 17) hx hb tx_d1_3 (by decide) (fun h => absurd h (by decide)) (fun _ => ?_)
  refine lv_aload_n hx hb tx_d1_6 rfl (lv_at hl 0 rfl) ?_
  refine vk_getf hx hb (ref := "java/lang/String") g1 hS hown (hw _ tx_fc) (fun _ h => h) tx_d1_7 ?_
  refine lv_if_ne (tgt := 17) hx hb tx_d1_10 (by decide) (fun h => absurd rfl h) (fun _ => ?_)
  refine lv_iconst (v := 1) hx hb tx_d1_13 (by decide) ?_
  refine lv_goto (tgt := 18) hx hb tx_d1_14 (by decide) ?_
  refine tx_ret C hS rfl ?_ ?_ tx_d1_18
  · decide
  · exact rfl
/-- length() -/
theorem tx_m2 (hi : i < 2) : tx_Met l base sa adV 1 tx_y2 tx_b2 1 tx_r2 [.ref (sa i)] (fun v => v = some (.int (nI (z_lens.getD i 0)))) := by
  refine tx_meth (by decide +kernel) (fun p e s m below meth c C => ?_)
  obtain ⟨⟨hx, hb, hml, hown, hw⟩, hret, hT, hlk, hbase⟩ := id C
  obtain ⟨g1, g2, g3⟩ := tx_in1 hT hi
  have hS : va_S (q_A base) s.heap s.heap [] := va_S.rf
  have hl := lv_entry ([.ref (sa i)]) (n := 1) (Nat.le_of_ble_eq_true rfl)
  rw [lg_entry_eq]
  generalize (lg_sl ([.ref (sa i)]) ++ List.replicate (1 - (lg_sl ([.ref (sa i)])).length) Slot.unset).toArray = ls at hl ⊢
  have hl : lv_has ls 1 [(0, .ref (sa i))] := hl
  refine lv_aload_n hx hb tx_d2_0 rfl (lv_at hl 0 rfl) ?_
  refine vk_getf hx hb (ref := "java/lang/String") g2 hS hown (hw _ tx_fv) (fun _ h => h) tx_d2_1 ?_
  refine va_tlen (v := nI (z_lens.getD i 0)) hx hb g3 hS rfl tx_d2_4 ?_
  refine lv_aload_n hx hb tx_d2_5 rfl (lv_at hl 0 rfl) ?_
  refine tx_virt (As := []) C.1 hT hbase (tx_m0 hi) tx_c0 tx_n0 tx_l2_6 tx_i0 tx_s0 tx_p0 ⟨by decide, by decide⟩ ⟨Nat.zero_le _, Nat.zero_le _⟩ (vk_recv hT.1 hi hS) hS hl.1 (by simp [Value.category]) tx_d2_6 (fun v locs hv hS => ?_)
  subst hv
  refine lv_ishr hx hb tx_d2_9 ?_
  rw [sc_shr0 (tx_lens hi)]
  refine tx_ret C hS rfl ?_ ?_ tx_d2_10
  · exact rfl
  · exact rfl
/-- Preconditions.checkIndex -/
theorem tx_m3 {k n : Nat} (hk : k < n) (hn : n < 2 ^ 31) {f : Value} (hf : f = .null ∨ ∃ t, f = .ref t) : tx_Met l base sa adV 0 tx_y3 tx_b3 3 tx_r3 [.int (nI k), .int (nI n), f] (fun v => ∃ r, v = some (.int r)) := by
  refine tx_meth (by decide +kernel) (fun p e s m below meth c C => ?_)
  obtain ⟨⟨hx, hb, hml, hown, hw⟩, hret, hT, hlk, hbase⟩ := id C
  have hS : va_S (q_A base) s.heap s.heap [] := va_S.rf
  have key : ∀ ls : Array Slot, lv_has ls 3 [(0, .int (nI k)), (1, .int (nI n)), (2, f)] → W p l e (q_rm 0 0 0) s m [.int (nI k), .int (nI n), f].toArray below meth c s.heap [] 0 0 (MQ below (tx_Qc (fun v => ∃ r, v = some (.int r))) [.int (nI k), .int (nI n), f].toArray s 0 0 (q_A base)) (F0 m 0 ls []) := fun ls hl => by
    refine lv_iload_n hx hb tx_d3_0 rfl (lv_at hl 0 rfl) ?_
    refine lv_if_lt (tgt := 9) hx hb tx_d3_1 (by decide) (fun h => absurd h (nI_pos (by omega))) (fun _ => ?_)
    refine lv_iload_n hx hb tx_d3_4 rfl (lv_at hl 0 rfl) ?_
    refine lv_iload_n hx hb tx_d3_5 rfl (lv_at hl 1 rfl) ?_
    refine lv_icmp_lt (tgt := 16) hx hb tx_d3_6 (by decide) (fun _ => ?_) (fun h => absurd (nI_lt hk hn) h)
    refine lv_iload_n hx hb tx_d3_16 rfl (lv_at hl 0 rfl) ?_
    refine tx_ret C hS rfl ?_ ?_ tx_d3_17
    · exact rfl
    · exact ⟨_, rfl⟩
  rcases hf with rfl | ⟨t, rfl⟩
  · have hl := lv_entry ([.int (nI k), .int (nI n), .null]) (n := 3) (Nat.le_of_ble_eq_true rfl)
    rw [lg_entry_eq]
    generalize (lg_sl ([.int (nI k), .int (nI n), .null]) ++ List.replicate (3 - (lg_sl ([.int (nI k), .int (nI n), .null])).length) Slot.unset).toArray = ls at hl ⊢
    exact key ls hl
  · have hl := lv_entry ([.int (nI k), .int (nI n), .ref t]) (n := 3) (Nat.le_of_ble_eq_true rfl)
    rw [lg_entry_eq]
    generalize (lg_sl ([.int (nI k), .int (nI n), .ref t]) ++ List.replicate (3 - (lg_sl ([.int (nI k), .int (nI n), .ref t])).length) Slot.unset).toArray = ls at hl ⊢
    exact key ls hl
/-- String.checkIndex -/
theorem tx_m4 {k n : Nat} (hk : k < n) (hn : n < 2 ^ 31) : tx_Met l base sa adV 1 tx_y4 tx_b4 2 tx_r4 [.int (nI k), .int (nI n)] (fun v => v = none) := by
  refine tx_meth (by decide +kernel) (fun p e s m below meth c C => ?_)
  obtain ⟨⟨hx, hb, hml, hown, hw⟩, hret, hT, hlk, hbase⟩ := id C
  have hS : va_S (q_A base) s.heap s.heap [] := va_S.rf
  have hl := lv_entry ([.int (nI k), .int (nI n)]) (n := 2) (Nat.le_of_ble_eq_true rfl)
  rw [lg_entry_eq]
  generalize (lg_sl ([.int (nI k), .int (nI n)]) ++ List.replicate (2 - (lg_sl ([.int (nI k), .int (nI n)])).length) Slot.unset).toArray = ls at hl ⊢
  have hl : lv_has ls 2 [(0, .int (nI k)), (1, .int (nI n))] := hl
  refine lv_iload_n hx hb tx_d4_0 rfl (lv_at hl 0 rfl) ?_
  refine lv_iload_n hx hb tx_d4_1 rfl (lv_at hl 1 rfl) ?_
  have go : ∀ f : Value, (f = .null ∨ ∃ t, f = .ref t) → W p l e (q_rm 1 0 0) s m [.int (nI k), .int (nI n)].toArray below meth c s.heap [] 0 0 (MQ below (tx_Qc (fun v => v = none)) [.int (nI k), .int (nI n)].toArray s 0 0 (q_A base)) (F0 m 5 ls [f, .int (nI n), .int (nI k)]) := fun f hf => by
    refine tx_stat (As := [.int (nI k), .int (nI n), f]) (rest := []) C.1 hT hbase (tx_m3 hk hn hf) tx_c3 tx_n3 tx_l4_5 tx_i3 tx_p3 ⟨by decide, by decide⟩ ⟨Nat.zero_le _, Nat.zero_le _⟩ hS hl.1 (by decide) tx_d4_5 (fun v locs hv hS => ?_)
    obtain ⟨r, rfl⟩ := hv
    refine lv_pop hx hb tx_d4_8 rfl ?_
    exact W.vret hx hb hret (fun _ ht _ => ⟨⟨_, rfl, rfl⟩, ht⟩) hS.2.2 tx_d4_9 hlk
  rcases hT.2.2 with h | ⟨t, h⟩
  · exact va_gets hx hb (ref := "jdk/internal/util/Preconditions") h hS hown (hw _ tx_fq) (fun _ h => h) tx_d4_2 (go _ (Or.inl rfl))
  · exact va_gets hx hb (ref := "jdk/internal/util/Preconditions") h hS hown (hw _ tx_fq) (fun _ h => h) tx_d4_2 (go _ (Or.inr ⟨t, rfl⟩))
/-- StringLatin1.charAt -/
theorem tx_m5 (hi : i < 2) {k : Nat} (hk : k < z_lens.getD i 0) : tx_Met l base sa adV 2 tx_y5 tx_b5 2 tx_r5 [.ref (adV i), .int (nI k)] (fun v => ∃ b : Int32, v = some (.int (b &&& 255))) := by
  refine tx_meth (by decide +kernel) (fun p e s m below meth c C => ?_)
  obtain ⟨⟨hx, hb, hml, hown, hw⟩, hret, hT, hlk, hbase⟩ := id C
  obtain ⟨g1, g2, g3⟩ := tx_in1 hT hi
  have hn := tx_lens hi
  have hS : va_S (q_A base) s.heap s.heap [] := va_S.rf
  have hl := lv_entry ([.ref (adV i), .int (nI k)]) (n := 2) (Nat.le_of_ble_eq_true rfl)
  rw [lg_entry_eq]
  generalize (lg_sl ([.ref (adV i), .int (nI k)]) ++ List.replicate (2 - (lg_sl ([.ref (adV i), .int (nI k)])).length) Slot.unset).toArray = ls at hl ⊢
  have hl : lv_has ls 2 [(0, .ref (adV i)), (1, .int (nI k))] := hl
  refine lv_iload_n hx hb tx_d5_0 rfl (lv_at hl 1 rfl) ?_
  refine lv_aload_n hx hb tx_d5_1 rfl (lv_at hl 0 rfl) ?_
  refine va_tlen (v := nI (z_lens.getD i 0)) hx hb g3 hS rfl tx_d5_2 ?_
  refine tx_stat (As := [.int (nI k), .int (nI (z_lens.getD i 0))]) (rest := []) C.1 hT hbase (tx_m4 hk hn) tx_c4 tx_n4 tx_l5_3 tx_i4 tx_p4 ⟨by decide, by decide⟩ ⟨Nat.zero_le _, Nat.zero_le _⟩ hS hl.1 (by decide) tx_d5_3 (fun v locs hv hS => ?_)
  subst hv
  refine lv_aload_n hx hb tx_d5_6 rfl (lv_at hl 0 rfl) ?_
  refine lv_iload_n hx hb tx_d5_7 rfl (lv_at hl 1 rfl) ?_
  refine va_tb hx hb g3 hS (vp_in_nI hk hn) rfl tx_d5_8 ?_
  refine lv_sipush (v := 255) hx hb tx_d5_9 (by decide) ?_
  refine lv_iand hx hb tx_d5_12 ?_
  refine lv_i2c hx hb tx_d5_13 (sc_c2 _) ?_
  refine tx_ret C hS rfl ?_ ?_ tx_d5_14
  · exact (sc_nar _)
  · exact ⟨_, rfl⟩
/-- charAt -/
theorem tx_m6 (hi : i < 2) {k : Nat} (hk : k < z_lens.getD i 0) : tx_Met l base sa adV 3 tx_y6 tx_b6 2 tx_r6 [.ref (sa i), .int (nI k)] (fun v => ∃ r, v = some (.int r)) := by
  refine tx_meth (by decide +kernel) (fun p e s m below meth c C => ?_)
  obtain ⟨⟨hx, hb, hml, hown, hw⟩, hret, hT, hlk, hbase⟩ := id C
  obtain ⟨g1, g2, g3⟩ := tx_in1 hT hi
  have hS : va_S (q_A base) s.heap s.heap [] := va_S.rf
  have hl := lv_entry ([.ref (sa i), .int (nI k)]) (n := 2) (Nat.le_of_ble_eq_true rfl)
  rw [lg_entry_eq]
  generalize (lg_sl ([.ref (sa i), .int (nI k)]) ++ List.replicate (2 - (lg_sl ([.ref (sa i), .int (nI k)])).length) Slot.unset).toArray = ls at hl ⊢
  have hl : lv_has ls 2 [(0, .ref (sa i)), (1, .int (nI k))] := hl
  refine lv_aload_n hx hb tx_d6_0 rfl (lv_at hl 0 rfl) ?_
  refine tx_virt (As := []) (rest := []) C.1 hT hbase (tx_m1 hi) tx_c1 tx_n1 tx_l6_1 tx_i1 tx_s1 tx_p1 ⟨by decide, by decide⟩ ⟨Nat.zero_le _, Nat.zero_le _⟩ (vk_recv hT.1 hi hS) hS hl.1 (by decide) tx_d6_1 (fun v locs hv hS => ?_)
  subst hv
  refine lv_if_eq (tgt := 16) hx hb tx_d6_4 (by decide) (fun h => absurd h (by decide)) (fun _ => ?_)
  refine lv_aload_n hx hb tx_d6_7 rfl (lv_at hl 0 rfl) ?_
  refine vk_getf hx hb (ref := "java/lang/String") g2 hS hown (hw _ tx_fv) (fun _ h => h) tx_d6_8 ?_
  refine lv_iload_n hx hb tx_d6_11 rfl (lv_at hl 1 rfl) ?_
  refine tx_stat (As := [.ref (adV i), .int (nI k)]) (rest := []) C.1 hT hbase (tx_m5 hi hk) tx_c5 tx_n5 tx_l6_12 tx_i5 tx_p5 ⟨by decide, by decide⟩ ⟨Nat.zero_le _, Nat.zero_le _⟩ hS hl.1 (by decide) tx_d6_12 (fun v locs hv hS => ?_)
  obtain ⟨r, rfl⟩ := hv
  refine tx_ret C hS rfl ?_ ?_ tx_d6_15
  · exact (sc_nar _)
  · exact ⟨_, rfl⟩
/-- Math.max of two alike -/
theorem tx_m7 {x : Int32} : tx_Met l base sa adV 0 tx_y7 tx_b7 2 tx_r7 [.int x, .int x] (fun v => v = some (.int x)) := by
  refine tx_meth (by decide +kernel) (fun p e s m below meth c C => ?_)
  obtain ⟨⟨hx, hb, hml, hown, hw⟩, hret, hT, hlk, hbase⟩ := id C
  have hS : va_S (q_A base) s.heap s.heap [] := va_S.rf
  have hl := lv_entry ([.int x, .int x]) (n := 2) (Nat.le_of_ble_eq_true rfl)
  rw [lg_entry_eq]
  generalize (lg_sl ([.int x, .int x]) ++ List.replicate (2 - (lg_sl ([.int x, .int x])).length) Slot.unset).toArray = ls at hl ⊢
  have hl : lv_has ls 2 [(0, .int x), (1, .int x)] := hl
  refine lv_iload_n hx hb tx_d7_0 rfl (lv_at hl 0 rfl) ?_
  refine lv_iload_n hx hb tx_d7_1 rfl (lv_at hl 1 rfl) ?_
  refine lv_icmp_lt (tgt := 9) hx hb tx_d7_2 (by decide) (fun _ => ?_) (fun _ => ?_)
  · refine lv_iload_n hx hb tx_d7_9 rfl (lv_at hl 1 rfl) ?_
    refine tx_ret C hS rfl ?_ ?_ tx_d7_10
    · exact rfl
    · exact rfl
  · refine lv_iload_n hx hb tx_d7_5 rfl (lv_at hl 0 rfl) ?_
    refine lv_goto (tgt := 10) hx hb tx_d7_6 (by decide) ?_
    refine tx_ret C hS rfl ?_ ?_ tx_d7_10
    · exact rfl
    · exact rfl
/-- Math.min of two alike -/
theorem tx_m8 {x : Int32} : tx_Met l base sa adV 0 tx_y8 tx_b8 2 tx_r8 [.int x, .int x] (fun v => v = some (.int x)) := by
  refine tx_meth (by decide +kernel) (fun p e s m below meth c C => ?_)
  obtain ⟨⟨hx, hb, hml, hown, hw⟩, hret, hT, hlk, hbase⟩ := id C
  have hS : va_S (q_A base) s.heap s.heap [] := va_S.rf
  have hl := lv_entry ([.int x, .int x]) (n := 2) (Nat.le_of_ble_eq_true rfl)
  rw [lg_entry_eq]
  generalize (lg_sl ([.int x, .int x]) ++ List.replicate (2 - (lg_sl ([.int x, .int x])).length) Slot.unset).toArray = ls at hl ⊢
  have hl : lv_has ls 2 [(0, .int x), (1, .int x)] := hl
  refine lv_iload_n hx hb tx_d8_0 rfl (lv_at hl 0 rfl) ?_
  refine lv_iload_n hx hb tx_d8_1 rfl (lv_at hl 1 rfl) ?_
  refine lv_icmp_gt (tgt := 9) hx hb tx_d8_2 (by decide) (fun _ => ?_) (fun _ => ?_)
  · refine lv_iload_n hx hb tx_d8_9 rfl (lv_at hl 1 rfl) ?_
    refine tx_ret C hS rfl ?_ ?_ tx_d8_10
    · exact rfl
    · exact rfl
  · refine lv_iload_n hx hb tx_d8_5 rfl (lv_at hl 0 rfl) ?_
    refine lv_goto (tgt := 10) hx hb tx_d8_6 (by decide) ?_
    refine tx_ret C hS rfl ?_ ?_ tx_d8_10
    · exact rfl
    · exact rfl
/-- StringLatin1.canEncode -/
theorem tx_m9 {x : Int32} : tx_Met l base sa adV 0 tx_y9 tx_b9 1 tx_r9 [.int x] (fun v => v = some (.int 0) ∨ v = some (.int 1)) := by
  refine tx_meth (by decide +kernel) (fun p e s m below meth c C => ?_)
  obtain ⟨⟨hx, hb, hml, hown, hw⟩, hret, hT, hlk, hbase⟩ := id C
  have hS : va_S (q_A base) s.heap s.heap [] := va_S.rf
  have hl := lv_entry ([.int x]) (n := 1) (Nat.le_of_ble_eq_true rfl)
  rw [lg_entry_eq]
  generalize (lg_sl ([.int x]) ++ List.replicate (1 - (lg_sl ([.int x])).length) Slot.unset).toArray = ls at hl ⊢
  have hl : lv_has ls 1 [(0, .int x)] := hl
  have no : W p l e (q_rm 0 0 0) s m [.int x].toArray below meth c s.heap [] 0 0 (MQ below (tx_Qc (fun v => v = some (.int 0) ∨ v = some (.int 1))) [.int x].toArray s 0 0 (q_A base)) (F0 m 15 ls []) := by
    refine lv_iconst (v := 0) hx hb tx_d9_15 (by decide) ?_
    refine tx_ret C hS rfl ?_ ?_ tx_d9_16
    · decide
    · exact (Or.inl rfl)
  refine lv_iload_n hx hb tx_d9_0 rfl (lv_at hl 0 rfl) ?_
  refine lv_if_lt (tgt := 15) hx hb tx_d9_1 (by decide) (fun _ => no) (fun _ => ?_)
  refine lv_iload_n hx hb tx_d9_4 rfl (lv_at hl 0 rfl) ?_
  refine lv_sipush (v := 255) hx hb tx_d9_5 (by decide) ?_
  refine lv_icmp_gt (tgt := 15) hx hb tx_d9_8 (by decide) (fun _ => no) (fun _ => ?_)
  refine lv_iconst (v := 1) hx hb tx_d9_11 (by decide) ?_
  refine lv_goto (tgt := 16) hx hb tx_d9_12 (by decide) ?_
  refine tx_ret C hS rfl ?_ ?_ tx_d9_16
  · decide
  · exact (Or.inr rfl)
/-- StringLatin1.indexOfChar, from 0 on -/
theorem tx_m10 (hi : i < 2) {x : Int32} : tx_Met l base sa adV 0 tx_y10 tx_b10 6 tx_r10 [.ref (adV i), .int x, .int (nI 0), .int (nI (z_lens.getD i 0))] (fun v => ∃ r, v = some (.int r)) := by
  refine tx_meth (by decide +kernel) (fun p e s m below meth c C => ?_)
  obtain ⟨⟨hx, hb, hml, hown, hw⟩, hret, hT, hlk, hbase⟩ := id C
  obtain ⟨g1, g2, g3⟩ := tx_in1 hT hi
  have hn := tx_lens hi
  have hS : va_S (q_A base) s.heap s.heap [] := va_S.rf
  have hl := lv_entry ([.ref (adV i), .int x, .int (nI 0), .int (nI (z_lens.getD i 0))]) (n := 6) (Nat.le_of_ble_eq_true rfl)
  rw [lg_entry_eq]
  generalize (lg_sl ([.ref (adV i), .int x, .int (nI 0), .int (nI (z_lens.getD i 0))]) ++ List.replicate (6 - (lg_sl ([.ref (adV i), .int x, .int (nI 0), .int (nI (z_lens.getD i 0))])).length) Slot.unset).toArray = ls at hl ⊢
  have hl : lv_has ls 6 [(0, .ref (adV i)), (1, .int x), (2, .int (nI 0)), (3, .int (nI (z_lens.getD i 0)))] := hl
  have loop : ∀ (n k : Nat) (ls : Array Slot), k + n = z_lens.getD i 0 → lv_has ls 6 [(5, .int (nI k)), (4, .int x.toInt8.toInt32), (0, .ref (adV i)), (1, .int x), (2, .int (nI 0)), (3, .int (nI (z_lens.getD i 0)))] → W p l e (q_rm 0 0 0) s m [.ref (adV i), .int x, .int (nI 0), .int (nI (z_lens.getD i 0))].toArray below meth c s.heap [] 0 0 (MQ below (tx_Qc (fun v => ∃ r, v = some (.int r))) [.ref (adV i), .int x, .int (nI 0), .int (nI (z_lens.getD i 0))].toArray s 0 0 (q_A base)) (F0 m 7 ls []) := by
    intro n
    induction n with
    | zero =>
      intro k ls hk hl
      refine lv_iload hx hb tx_d10_7 (lv_at hl 0 rfl) ?_
      refine lv_iload_n hx hb tx_d10_9 rfl (lv_at hl 5 rfl) ?_
      refine lv_icmp_ge (tgt := 31) hx hb tx_d10_10 (by decide) (fun _ => ?_) (fun h => absurd (nI_le (by omega) (by omega)) h)
      refine lv_iconst (v := -1) hx hb tx_d10_31 (by decide) ?_
      refine tx_ret C hS rfl ?_ ?_ tx_d10_32
      · exact rfl
      · exact ⟨_, rfl⟩
    | succ n ih =>
      intro k ls hk hl
      refine lv_iload hx hb tx_d10_7 (lv_at hl 0 rfl) ?_
      refine lv_iload_n hx hb tx_d10_9 rfl (lv_at hl 5 rfl) ?_
      refine lv_icmp_ge (tgt := 31) hx hb tx_d10_10 (by decide) (fun h => absurd h (nI_ge (by omega) (by omega))) (fun _ => ?_)
      refine lv_aload_n hx hb tx_d10_13 rfl (lv_at hl 2 rfl) ?_
      refine lv_iload hx hb tx_d10_14 (lv_at hl 0 rfl) ?_
      refine va_tb hx hb g3 hS (vp_in_nI (by omega) hn) rfl tx_d10_16 ?_
      refine lv_iload hx hb tx_d10_17 (lv_at hl 1 rfl) ?_
      refine lv_icmp_ne (tgt := 25) hx hb tx_d10_19 (by decide) (fun _ => ?_) (fun _ => ?_)
      · refine lv_iinc (k := 0) (v := nI (k + 1)) (lv' := [(5, .int (nI (k + 1))), (4, .int x.toInt8.toInt32), (0, .ref (adV i)), (1, .int x), (2, .int (nI 0)), (3, .int (nI (z_lens.getD i 0)))]) hx hb tx_d10_25 hl rfl (nI_succ k).symm (by decide) rfl (fun ls hl => ?_)
        refine lv_goto (tgt := 7) hx hb tx_d10_28 (by decide) ?_
        exact ih (k + 1) ls (by omega) hl
      · refine lv_iload hx hb tx_d10_22 (lv_at hl 0 rfl) ?_
        refine tx_ret C hS rfl ?_ ?_ tx_d10_24
        · exact rfl
        · exact ⟨_, rfl⟩
  refine lv_iload_n hx hb tx_d10_0 rfl (lv_at hl 1 rfl) ?_
  refine lv_i2b hx hb tx_d10_1 rfl ?_
  refine lv_istore (lv' := [(4, .int x.toInt8.toInt32), (0, .ref (adV i)), (1, .int x), (2, .int (nI 0)), (3, .int (nI (z_lens.getD i 0)))]) hx hb tx_d10_2 hl (by decide) rfl (fun ls hl => ?_)
  refine lv_iload_n hx hb tx_d10_4 rfl (lv_at hl 3 rfl) ?_
  refine lv_istore (lv' := [(5, .int (nI 0)), (4, .int x.toInt8.toInt32), (0, .ref (adV i)), (1, .int x), (2, .int (nI 0)), (3, .int (nI (z_lens.getD i 0)))]) hx hb tx_d10_5 hl (by decide) rfl (fun ls hl => ?_)
  exact loop _ 0 ls (Nat.zero_add _) hl
/-- StringLatin1.indexOf -/
theorem tx_m11 (hi : i < 2) {x : Int32} : tx_Met l base sa adV 1 tx_y11 tx_b11 4 tx_r11 [.ref (adV i), .int x, .int (nI 0), .int (nI (z_lens.getD i 0))] (fun v => ∃ r, v = some (.int r)) := by
  refine tx_meth (by decide +kernel) (fun p e s m below meth c C => ?_)
  obtain ⟨⟨hx, hb, hml, hown, hw⟩, hret, hT, hlk, hbase⟩ := id C
  obtain ⟨g1, g2, g3⟩ := tx_in1 hT hi
  have hn := tx_lens hi
  have hS : va_S (q_A base) s.heap s.heap [] := va_S.rf
  have hl := lv_entry ([.ref (adV i), .int x, .int (nI 0), .int (nI (z_lens.getD i 0))]) (n := 4) (Nat.le_of_ble_eq_true rfl)
  rw [lg_entry_eq]
  generalize (lg_sl ([.ref (adV i), .int x, .int (nI 0), .int (nI (z_lens.getD i 0))]) ++ List.replicate (4 - (lg_sl ([.ref (adV i), .int x, .int (nI 0), .int (nI (z_lens.getD i 0))])).length) Slot.unset).toArray = ls at hl ⊢
  have hl : lv_has ls 4 [(0, .ref (adV i)), (1, .int x), (2, .int (nI 0)), (3, .int (nI (z_lens.getD i 0)))] := hl
  refine lv_iload_n hx hb tx_d11_0 rfl (lv_at hl 1 rfl) ?_
  refine tx_stat (As := [.int x]) (rest := []) C.1 hT hbase tx_m9 tx_c9 tx_n9 tx_l11_1 tx_i9 tx_p9 ⟨by decide, by decide⟩ ⟨Nat.zero_le _, Nat.zero_le _⟩ hS hl.1 (by decide) tx_d11_1 (fun v locs hv hS => ?_)
  have go : W p l e (q_rm 1 0 0) s m [.ref (adV i), .int x, .int (nI 0), .int (nI (z_lens.getD i 0))].toArray below meth c s.heap locs 0 0 (MQ below (tx_Qc (fun v => ∃ r, v = some (.int r))) [.ref (adV i), .int x, .int (nI 0), .int (nI (z_lens.getD i 0))].toArray s 0 0 (q_A base)) (F0 m 9 ls []) := by
    refine lv_iload_n hx hb tx_d11_9 rfl (lv_at hl 2 rfl) ?_
    refine lv_iconst (v := nI 0) hx hb tx_d11_10 (by decide) ?_
    refine tx_stat (As := [.int (nI 0), .int (nI 0)]) (rest := []) C.1 hT hbase tx_m7 tx_c7 tx_n7 tx_l11_11 tx_i7 tx_p7 ⟨by decide, by decide⟩ ⟨Nat.zero_le _, Nat.zero_le _⟩ hS hl.1 (by decide) tx_d11_11 (fun v locs hv hS => ?_)
    subst hv
    refine lv_istore_n (lv' := [(2, .int (nI 0)), (0, .ref (adV i)), (1, .int x), (3, .int (nI (z_lens.getD i 0)))]) hx hb tx_d11_14 rfl hl (by decide) rfl (fun ls hl => ?_)
    refine lv_iload_n hx hb tx_d11_15 rfl (lv_at hl 3 rfl) ?_
    refine lv_aload_n hx hb tx_d11_16 rfl (lv_at hl 1 rfl) ?_
    refine va_tlen (v := nI (z_lens.getD i 0)) hx hb g3 hS rfl tx_d11_17 ?_
    refine tx_stat (As := [.int (nI (z_lens.getD i 0)), .int (nI (z_lens.getD i 0))]) (rest := []) C.1 hT hbase tx_m8 tx_c8 tx_n8 tx_l11_18 tx_i8 tx_p8 ⟨by decide, by decide⟩ ⟨Nat.zero_le _, Nat.zero_le _⟩ hS hl.1 (by decide) tx_d11_18 (fun v locs hv hS => ?_)
    subst hv
    refine lv_istore_n (lv' := [(3, .int (nI (z_lens.getD i 0))), (2, .int (nI 0)), (0, .ref (adV i)), (1, .int x)]) hx hb tx_d11_21 rfl hl (by decide) rfl (fun ls hl => ?_)
    refine lv_iload_n hx hb tx_d11_22 rfl (lv_at hl 1 rfl) ?_
    refine lv_iload_n hx hb tx_d11_23 rfl (lv_at hl 0 rfl) ?_
    refine lv_icmp_lt (tgt := 29) hx hb tx_d11_24 (by decide) (fun _ => ?_) (fun _ => ?_)
    · refine lv_aload_n hx hb tx_d11_29 rfl (lv_at hl 2 rfl) ?_
      refine lv_iload_n hx hb tx_d11_30 rfl (lv_at hl 3 rfl) ?_
      refine lv_iload_n hx hb tx_d11_31 rfl (lv_at hl 1 rfl) ?_
      refine lv_iload_n hx hb tx_d11_32 rfl (lv_at hl 0 rfl) ?_
      refine tx_stat (As := [.ref (adV i), .int x, .int (nI 0), .int (nI (z_lens.getD i 0))]) (rest := []) C.1 hT hbase (tx_m10 hi) tx_c10 tx_n10 tx_l11_33 tx_i10 tx_p10 ⟨by decide, by decide⟩ ⟨Nat.zero_le _, Nat.zero_le _⟩ hS hl.1 (by decide) tx_d11_33 (fun v locs hv hS => ?_)
      obtain ⟨r, rfl⟩ := hv
      refine tx_ret C hS rfl ?_ ?_ tx_d11_36
      · exact rfl
      · exact ⟨_, rfl⟩
    · refine lv_iconst (v := -1) hx hb tx_d11_27 (by decide) ?_
      refine tx_ret C hS rfl ?_ ?_ tx_d11_28
      · exact rfl
      · exact ⟨_, rfl⟩
  rcases hv with rfl | rfl
  · refine lv_if_ne (tgt := 9) hx hb tx_d11_4 (by decide) (fun _ => go) (fun _ => ?_)
    refine lv_iconst (v := -1) hx hb tx_d11_7 (by decide) ?_
    refine tx_ret C hS rfl ?_ ?_ tx_d11_8
    · exact rfl
    · exact ⟨_, rfl⟩
  · refine lv_if_ne (tgt := 9) hx hb tx_d11_4 (by decide) (fun _ => go) (fun _ => ?_)
    refine lv_iconst (v := -1) hx hb tx_d11_7 (by decide) ?_
    refine tx_ret C hS rfl ?_ ?_ tx_d11_8
    · exact rfl
    · exact ⟨_, rfl⟩
/-- indexOf(int, int), from 0 on -/
theorem tx_m12 (hi : i < 2) {x : Int32} : tx_Met l base sa adV 2 tx_y12 tx_b12 3 tx_r12 [.ref (sa i), .int x, .int (nI 0)] (fun v => ∃ r, v = some (.int r)) := by
  refine tx_meth (by decide +kernel) (fun p e s m below meth c C => ?_)
  obtain ⟨⟨hx, hb, hml, hown, hw⟩, hret, hT, hlk, hbase⟩ := id C
  obtain ⟨g1, g2, g3⟩ := tx_in1 hT hi
  have hS : va_S (q_A base) s.heap s.heap [] := va_S.rf
  have hl := lv_entry ([.ref (sa i), .int x, .int (nI 0)]) (n := 3) (Nat.le_of_ble_eq_true rfl)
  rw [lg_entry_eq]
  generalize (lg_sl ([.ref (sa i), .int x, .int (nI 0)]) ++ List.replicate (3 - (lg_sl ([.ref (sa i), .int x, .int (nI 0)])).length) Slot.unset).toArray = ls at hl ⊢
  have hl : lv_has ls 3 [(0, .ref (sa i)), (1, .int x), (2, .int (nI 0))] := hl
  refine lv_aload_n hx hb tx_d12_0 rfl (lv_at hl 0 rfl) ?_
  refine tx_virt (As := []) (rest := []) C.1 hT hbase (tx_m1 hi) tx_c1 tx_n1 tx_l12_1 tx_i1 tx_s1 tx_p1 ⟨by decide, by decide⟩ ⟨Nat.zero_le _, Nat.zero_le _⟩ (vk_recv hT.1 hi hS) hS hl.1 (by decide) tx_d12_1 (fun v locs hv hS => ?_)
  subst hv
  refine lv_if_eq (tgt := 23) hx hb tx_d12_4 (by decide) (fun h => absurd h (by decide)) (fun _ => ?_)
  refine lv_aload_n hx hb tx_d12_7 rfl (lv_at hl 0 rfl) ?_
  refine vk_getf hx hb (ref := "java/lang/String") g2 hS hown (hw _ tx_fv) (fun _ h => h) tx_d12_8 ?_
  refine lv_iload_n hx hb tx_d12_11 rfl (lv_at hl 1 rfl) ?_
  refine lv_iload_n hx hb tx_d12_12 rfl (lv_at hl 2 rfl) ?_
  refine lv_aload_n hx hb tx_d12_13 rfl (lv_at hl 0 rfl) ?_
  refine tx_virt (As := []) C.1 hT hbase (tx_m2 hi) tx_c2 tx_n2 tx_l12_14 tx_i2 tx_s2 tx_p2 ⟨by decide, by decide⟩ ⟨Nat.zero_le _, Nat.zero_le _⟩ (vk_recv hT.1 hi hS) hS hl.1 (by simp [Value.category]) tx_d12_14 (fun v locs hv hS => ?_)
  subst hv
  refine tx_stat (As := [.ref (adV i), .int x, .int (nI 0), .int (nI (z_lens.getD i 0))]) (rest := []) C.1 hT hbase (tx_m11 hi) tx_c11 tx_n11 tx_l12_17 tx_i11 tx_p11 ⟨by decide, by decide⟩ ⟨Nat.zero_le _, Nat.zero_le _⟩ hS hl.1 (by decide) tx_d12_17 (fun v locs hv hS => ?_)
  obtain ⟨r, rfl⟩ := hv
  refine lv_goto (tgt := 36) hx hb tx_d12_20 (by decide) ?_
  refine tx_ret C hS rfl ?_ ?_ tx_d12_36
  · exact rfl
  · exact ⟨_, rfl⟩
/-- indexOf(int) -/
theorem tx_m13 (hi : i < 2) {x : Int32} : tx_Met l base sa adV 3 tx_y13 tx_b13 2 tx_r13 [.ref (sa i), .int x] (fun v => ∃ r, v = some (.int r)) := by
  refine tx_meth (by decide +kernel) (fun p e s m below meth c C => ?_)
  obtain ⟨⟨hx, hb, hml, hown, hw⟩, hret, hT, hlk, hbase⟩ := id C
  have hS : va_S (q_A base) s.heap s.heap [] := va_S.rf
  have hl := lv_entry ([.ref (sa i), .int x]) (n := 2) (Nat.le_of_ble_eq_true rfl)
  rw [lg_entry_eq]
  generalize (lg_sl ([.ref (sa i), .int x]) ++ List.replicate (2 - (lg_sl ([.ref (sa i), .int x])).length) Slot.unset).toArray = ls at hl ⊢
  have hl : lv_has ls 2 [(0, .ref (sa i)), (1, .int x)] := hl
  refine lv_aload_n hx hb tx_d13_0 rfl (lv_at hl 0 rfl) ?_
  refine lv_iload_n hx hb tx_d13_1 rfl (lv_at hl 1 rfl) ?_
  refine lv_iconst (v := nI 0) hx hb tx_d13_2 (by decide) ?_
  refine tx_virt (As := [.int x, .int (nI 0)]) (rest := []) C.1 hT hbase (tx_m12 hi) tx_c12 tx_n12 tx_l13_3 tx_i12 tx_s12 tx_p12 ⟨by decide, by decide⟩ ⟨Nat.zero_le _, Nat.zero_le _⟩ (vk_recv hT.1 hi hS) hS hl.1 (by decide) tx_d13_3 (fun v locs hv hS => ?_)
  obtain ⟨r, rfl⟩ := hv
  refine tx_ret C hS rfl ?_ ?_ tx_d13_6
  · exact rfl
  · exact ⟨_, rfl⟩
end TM
