/-! ===== the law: its arguments, its calls ===== -/
def R_law : String := "SandNightsLaw"
def lw_P (b : Addr) (xs : List Int32) (args : Array Value) (s : State) : Prop := args = #[.ref b] ∧ s.IntsAt b xs ∧ xs.length ≤ 6 ∧ (Jvm.Cond.and given_1 narrow_1).before args s = true
def lw_Q (_ : Array Value) (s : State) (o : Outcome) (t : State) : Prop := o = .returned (some (.int 1)) ∧ Framed s o t [] 600000 7302250
def lw_Z (below : List Frame) (a : Array Value) (s : State) : State → Prop := fun t => ∃ o, t.status = .running ∧ Ended t below o ∧ lw_Q a s o t
def lw_At (p : Program) (s : State) (m : MethodId) (meth : Method) (c : Code) (b L : Nat) (xs : Nat → Int32) : Prop :=
  p.tables.exec = Jvm.exec ∧ c.code = code ∧ meth.sig.returnType = ret ∧ c.maxLocals = 4 ∧ s.vm.findClass R_law = some m.cls ∧ (∀ w ∈ lw_tbl, w.before #[Value.ref b] s = true) ∧ va_X b L xs s s.heap ∧ b < s.heap.size ∧ meth.locks = false ∧ (Jvm.Cond.and given_1 narrow_1).before #[Value.ref b] s = true
def q_dk (pc : Nat) (ins : Instr) (ln : Nat) : Bool := decide (decode code pc = .ok (ins, ln))
def q_ad5 (pc k : Nat) : Bool := q_dk pc (.aload_n 0) 1 && (q_dk (pc + 1) (.iload_n 3) 1 && (q_dk (pc + 1 + 1) (.iconst (k : Int)) 1 && (q_dk (pc + 1 + 1 + 1) .iadd 1 && q_dk (pc + 1 + 1 + 1 + 1) .iaload 1)))
theorem q_ofInt : ∀ k : Nat, k < 6 → Int32.ofInt (k : Int) = nI k := by decide +kernel
section QL
variable {p : Program} {l : Launch} {e : Env} {s : State} {m : MethodId} {below : List Frame} {meth : Method} {c : Code} {b : Nat} {xs : Nat → Int32} {H : Heap} {locs : List Loc} {cells slots : Nat} {Q : State → Prop} {ls : Array Slot} {D : va_G}
abbrev q_lv (b ax am : Nat) : List (Nat × Value) := [(3, .int 0), (2, .ref am), (1, .ref ax), (0, .ref b)]
theorem q_larg (C0 : lw_At p s m meth c b 6 xs) (hS : va_S (q_A s.heap.size) s.heap H locs) {ax am : Nat} (hl : lv_has ls 4 (q_lv b ax am)) {pc k : Nat} {rest : List Value} (hk : k < 6) (hd : q_ad5 pc k = true) (kk : W p l e room_1 s m #[Value.ref b] below meth c H locs cells slots Q (F0 m (pc + 5) ls (.int (xs k) :: rest))) : W p l e room_1 s m #[Value.ref b] below meth c H locs cells slots Q (F0 m pc ls rest) := by
  obtain ⟨d1, hd⟩ := q_ands hd
  obtain ⟨d2, hd⟩ := q_ands hd
  obtain ⟨d3, hd⟩ := q_ands hd
  obtain ⟨d4, d5⟩ := q_ands hd
  obtain ⟨hx, hb, hr, hml, hown, hts, hX, hbl, hlocks, hgv⟩ := C0
  have hbA : ¬ q_A s.heap.size b := Nat.not_le.mpr hbl
  refine lv_aload_n hx hb (of_decide_eq_true d1) rfl (lv_at hl 3 rfl) ?_
  refine lv_iload_n hx hb (of_decide_eq_true d2) rfl (lv_at hl 0 rfl) ?_
  refine lv_iconst (v := nI k) hx hb (of_decide_eq_true d3) (q_ofInt k hk) ?_
  refine lv_iadd hx hb (of_decide_eq_true d4) ?_
  rw [Int32.zero_add]
  refine va_sld hx hb hX hbl hbA hS (vp_in_nI hk (by decide)) (of_decide_eq_true d5) ?_
  rw [nI_clamp (show k < 2 ^ 31 by omega)]
  exact kk
/-- n arguments, from the k-th on -/
theorem q_largs (C0 : lw_At p s m meth c b 6 xs) (hS : va_S (q_A s.heap.size) s.heap H locs) {ax am : Nat} (hl : lv_has ls 4 (q_lv b ax am)) : ∀ (n k pc : Nat) (rest : List Value), k + n ≤ 6 → (∀ j, j < n → q_ad5 (pc + 5 * j) (k + j) = true) → W p l e room_1 s m #[Value.ref b] below meth c H locs cells slots Q (F0 m (pc + 5 * n) ls ((q_xa xs n k).reverse ++ rest)) → W p l e room_1 s m #[Value.ref b] below meth c H locs cells slots Q (F0 m pc ls rest)
  | 0, _, _, _, _, _, kk => kk
  | n + 1, k, pc, rest, hk, hd, kk => by
    refine q_larg C0 hS hl (show k < 6 by omega) (by have := hd 0 (by omega); simpa using this) ?_
    refine q_largs C0 hS hl n (k + 1) (pc + 5) (.int (xs k) :: rest) (by omega) (fun j hj => ?_) ?_
    · have := hd (j + 1) (by omega)
      rw [show pc + 5 * (j + 1) = pc + 5 + 5 * j by omega, show k + (j + 1) = k + 1 + j by omega] at this
      exact this
    · rw [show pc + 5 + 5 * n = pc + 5 * (n + 1) by omega]
      rw [show (q_xa xs n (k + 1)).reverse ++ (.int (xs k) :: rest) = (q_xa xs (n + 1) k).reverse ++ rest by simp [q_xa]]
      exact kk
theorem q_lcall (C0 : lw_At p s m meth c b 6 xs) (hX2 : q_X s) {i idx k z : Nat} {codes : List Nat} {As rest : List Value} {h h' : q_H} {v : Nat} (hv : v ≤ 4294967295) (hi : i < q_nM) (hM : q_Met l s.heap.size D xs 10 i ((4294967328 + k) :: codes) h h' [v]) (hlk : Cond.methodLink R_law idx (q_y i) ∈ lw_tbl) (hnp : q_np i = As.length) (hkn : Nat.beq (q_kn i) 1 = true) (hz : z < 10) (hon : q_on i = z) (hkd : (q_tg 7 h.2 k).1 = 2 * z) (hk : k < h.1)
    {ws : va_W} {tys : List (ClassId × FieldType)} (hw : q_W xs h ws tys) (hP : va_P D q_cls ws H) (hK : va_K D q_cls tys s) (hD : va_D (q_A s.heap.size) ws) (hS : va_S (q_A s.heap.size) s.heap H locs) (hAs : q_S xs (q_ad ws) codes As) {a : Nat} (ha : (q_ad ws)[k]? = some a) {pc nl : Nat} (hls : ls.size = 4) (hrest : (rest.map fun v => v.category).sum ≤ 8) (hd : decode code pc = .ok (.invokevirtual idx, 3)) (hc1 : cells + (h'.1 - h.1) ≤ 600000) (hc2 : slots + (q_ss h' - q_ss h) ≤ 7302250)
    (kk : ∀ (ws1 : va_W) (tys1 : List (ClassId × FieldType)) (H1 : Heap) (locs1 : List Loc), q_ad ws <+: q_ad ws1 → q_W xs h' ws1 tys1 → va_P D q_cls ws1 H1 → va_K D q_cls tys1 s → va_D (q_A s.heap.size) ws1 → va_S (q_A s.heap.size) s.heap H1 locs1 → W p l e room_1 s m #[Value.ref b] below meth c H1 locs1 (cells + (h'.1 - h.1)) (slots + (q_ss h' - q_ss h)) Q (F0 m (pc + 3) ls (.int (nI v) :: rest))) : W p l e room_1 s m #[Value.ref b] below meth c H locs cells slots Q (F0 m pc ls (As.reverse ++ .ref a :: rest)) := by
  obtain ⟨hx, hb, hr, hml, hown, hts, hX, hbl, hlocks, hgv⟩ := C0
  have hk128 : k < 128 := Nat.lt_of_lt_of_le hk hw.2.1
  have hav : q_S xs (q_ad ws) ((4294967328 + k) :: codes) (.ref a :: As) := ⟨q_v.mkref ha hk128, hAs⟩
  have hMet := hM.2 (q_ad ws) (.ref a :: As) hav
  obtain ⟨a2, e2, he, hc⟩ := hw.2.2 k hk
  have ha2 : a2 = a := by
    have : (q_ad ws)[k]? = some a2 := by rw [List.getElem?_map, he]; rfl
    exact Option.some.inj (this.symm.trans ha)
  subst ha2
  obtain ⟨fs, rfl, -⟩ := hc.obj hkd
  obtain ⟨k1, k2, k3, k4, k5, k6, -⟩ := q_okm i hi
  have hsub : ∀ w ∈ q_w0, w.before #[Value.ref b] s = true := fun w hw => hts w (List.mem_filter.mp hw).1
  have hG : GoodIn lw_tbl (q_wy i) := fun w hw => by
    have := q_goodIn k1 w hw
    exact ⟨(List.mem_filter.mp this.1).1, this.2⟩
  have kn0 : Nat.beq (q_kn i) 0 = false := q_bneq.mpr (by rw [q_beq.mp hkn]; decide)
  have hdesc := q_np_ok i hi
  rw [hnp] at hdesc
  refine q_after (va_runV (Ts := lw_tbl) (own := R_law) (C := (q_y i).cls) (nL := 4) (As := As) (b := a2) ⟨hx, hb, hml, hown, hts⟩ hMet ⟨callB_of As.length hts hG rfl rfl rfl (hsub _ k3) (hts _ hlk) ⟨k4, k5, hdesc⟩ ⟨by show 10 + 1 ≤ 2048; decide, by show 8 + (q_ml i + 11) + 40 * 10 ≤ 84000; omega⟩, hsub _ (q_wat_ok (q_in_ok i hi kn0)), hsub _ (q_wat_ok (q_se_ok i hi hkn))⟩ ⟨q_blind, ?_, fun U hU hW => ⟨rfl, by rw [hU]; exact hS.1, q_X.warm hW hX2, ws, tys, rfl, hw, by rw [hU]; exact hP, va_K.moved hW.alike hK, hD⟩⟩ rfl rfl hls rfl (lv_room hrest) hd ⟨hc1, hc2⟩) hS (fun vv ws1 tys1 H1 locs1 h1 h2 h3 h4 h5 h6 h7 => ?_)
  · have := va_recv hK hP (q_cls_at z hz) he
    rw [q_own_cls z hz, ← hon, ← q_on_ok i hi] at this
    exact this
  · rcases h1 with ⟨e1, -⟩ | ⟨cc, xv, e1, rfl, hxv⟩
    · cases e1
    · have e3 : v = cc := by cases e1; rfl
      subst e3
      have e4 : xv = .int (nI v) := by
        rcases hxv with ⟨_, q⟩ | ⟨q, _⟩ | ⟨q, _⟩ | ⟨q, _⟩ | ⟨q, _⟩ | ⟨q, _⟩ <;> first | exact q | omega
      subst e4
      exact kk ws1 tys1 H1 locs1 h2 h3 h4 h5 h6 h7
end QL
