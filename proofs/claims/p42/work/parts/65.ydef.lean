/-! ===== walks by hand over typed worlds: a rule for each instruction ===== -/
abbrev y_X : Type := (Launch × Nat × va_G × (Nat → Nat) × (Nat → z_T) × List z_C × (va_W → List Nat → Prop)) × ((Nat × Nat) × Nat × Program × Env × State × MethodId × Array Value) × (List Frame × Method × Code × (State → Prop) × va_W × List Nat)
abbrev y_l (X : y_X) : Launch := X.1.1
abbrev y_b (X : y_X) : Nat := X.1.2.1
abbrev y_D (X : y_X) : va_G := X.1.2.2.1
abbrev y_sa (X : y_X) : Nat → Nat := X.1.2.2.2.1
abbrev y_tt (X : y_X) : Nat → z_T := X.1.2.2.2.2.1
abbrev y_kw (X : y_X) : List z_C := X.1.2.2.2.2.2.1
abbrev y_J (X : y_X) : va_W → List Nat → Prop := X.1.2.2.2.2.2.2
abbrev y_d (X : y_X) : Nat × Nat := X.2.1.1
abbrev y_i (X : y_X) : Nat := X.2.1.2.1
abbrev y_p (X : y_X) : Program := X.2.1.2.2.1
abbrev y_e (X : y_X) : Env := X.2.1.2.2.2.1
abbrev y_s (X : y_X) : State := X.2.1.2.2.2.2.1
abbrev y_m (X : y_X) : MethodId := X.2.1.2.2.2.2.2.1
abbrev y_a (X : y_X) : Array Value := X.2.1.2.2.2.2.2.2
abbrev y_w (X : y_X) : List Frame := X.2.2.1
abbrev y_me (X : y_X) : Method := X.2.2.2.1
abbrev y_c (X : y_X) : Code := X.2.2.2.2.1
abbrev y_Q (X : y_X) : State → Prop := X.2.2.2.2.2.1
abbrev y_w0 (X : y_X) : va_W := X.2.2.2.2.2.2.1
abbrev y_t0 (X : y_X) : List Nat := X.2.2.2.2.2.2.2
def y_C (X : y_X) : Prop := z_Cx (y_b X) (y_sa X) (y_kw X) (y_J X) (y_i X) (y_p X) (y_s X) (y_m X) (y_a X) (y_me X) (y_c X) (y_w0 X) (y_t0 X)
def y_L (L : List (Option Value)) (nL : Nat) (ls : Array Slot) : Prop := L.length = nL ∧ ∃ lv : List (Nat × Value), lv_has ls nL lv ∧ (∀ q ∈ lv, q.2.category = 1) ∧ ∀ k v, L[k]? = some (some v) → (k, v) ∈ lv
/-- the machine at pc, with these locals, this stack, this world, comes to its end -/
def Y (X : y_X) (n pc : Nat) (L : List (Option Value)) (st : List Value) (ws : va_W) (ts : List Nat) : Prop := ∀ (H : Heap) (locs : List Loc) (ls : Array Slot) (tys : List (ClassId × FieldType)), z_Hp (y_b X) (y_D X) (y_tt X) (y_kw X) (y_s X) (y_w0 X) (y_t0 X) H locs ws tys ts → y_L L (q_ml (y_i X)) ls → W (y_p X) (y_l X) (y_e X) (q_rm (y_d X).1 (9 * (y_d X).2) (446 * (y_d X).2)) (y_s X) (y_m X) (y_a X) (y_w X) (y_me X) (y_c X) H locs (9 * n) (446 * n) (y_Q X) (F0 (y_m X) pc ls st)
def y_E (i : Nat) (q : q_I) : Prop := decode (q_b i) q.1 = .ok (q.2.2.1, q.2.1) ∧ q_lnk i q.1 q.2.1 q.2.2.1 q.2.2.2.1 q.2.2.2.2.1 q.2.2.2.2.2 ∧ z_lnk i q.1 q.2.1 q.2.2.1 q.2.2.2.1 q.2.2.2.2.1 q.2.2.2.2.2
theorem y_at (hok : ∀ i, i < q_nM → q_mok i) {i : Nat} (hi : i < q_nM) {q : q_I} (hq : q ∈ q_code i) : y_E i q := ⟨((hok i hi).2.2.2.2.2.2.2.2 q hq).1, ((hok i hi).2.2.2.2.2.2.2.2 q hq).2, z_hlk i hi q hq⟩
theorem y_L.get {L : List (Option Value)} {nL : Nat} {ls : Array Slot} (h : y_L L nL ls) {k : Nat} {v : Value} (hk : L[k]? = some (some v)) : ls[k]? = some (.val v) := by
  obtain ⟨-, lv, h1, -, h3⟩ := h
  exact h1.2.2 _ (h3 k v hk)
theorem y_L.store {L : List (Option Value)} {nL : Nat} {x : Nat} {v : Value} {lv : List (Nat × Value)} {ls' : Array Slot} (hl : L.length = nL) (h3 : ∀ k v, L[k]? = some (some v) → (k, v) ∈ lv) (hcat : ∀ q ∈ lv, q.2.category = 1) (hv : v.category = 1) (h : lv_has ls' nL ((x, v) :: lv.filter (fun q => !(q.1 == x) && !(q.1 + 1 == x && q.2.category == 2)))) : y_L (L.set x (some v)) nL ls' := by
  refine ⟨by rw [List.length_set]; exact hl, _, h, fun q hq => ?_, fun k w hk => ?_⟩
  · rcases List.mem_cons.mp hq with rfl | hq
    · exact hv
    · exact hcat q (List.mem_filter.mp hq).1
  · by_cases e : x = k
    · subst e
      have hx : x < L.length := by
        have := (List.getElem?_eq_some_iff.mp hk).1
        rw [List.length_set] at this
        exact this
      rw [List.getElem?_set_self hx] at hk
      cases hk
      exact List.mem_cons_self
    · rw [List.getElem?_set_ne e] at hk
      have g1 := h3 k w hk
      refine List.mem_cons_of_mem _ (List.mem_filter.mpr ⟨g1, ?_⟩)
      have := hcat _ g1
      have e2 : ¬ k = x := fun z => e z.symm
      simp [e2, this]
section YR
variable {X : y_X} {n pc ln x y z : Nat} {L : List (Option Value)} {st : List Value} {ws : va_W} {ts : List Nat} {v w : Int32} {va vb : Value} {a : Nat}
theorem y_ic {k0 : Int} (hC : y_C X) (E : y_E (y_i X) (pc, ln, .iconst k0, x, y, z)) (k : Y X n (pc + ln) L (.int (nI x) :: st) ws ts) : Y X n pc L st ws ts := by
  intro H locs ls tys hp hL
  obtain ⟨hd, ⟨e1, e2, e3⟩, -⟩ := E
  have e1 : ln = 1 := e1
  subst e1
  exact lv_iconst hC.1.1 hC.1.2.1 hd e3 (k H locs ls tys hp hL)
theorem y_bp {k0 : Int} (hC : y_C X) (E : y_E (y_i X) (pc, ln, .bipush k0, x, y, z)) (k : Y X n (pc + ln) L (.int (nI x) :: st) ws ts) : Y X n pc L st ws ts := by
  intro H locs ls tys hp hL
  obtain ⟨hd, ⟨e1, e2, e3⟩, -⟩ := E
  have e1 : ln = 2 := e1
  subst e1
  exact lv_bipush hC.1.1 hC.1.2.1 hd e3 (k H locs ls tys hp hL)
theorem y_sp {k0 : Int} (hC : y_C X) (E : y_E (y_i X) (pc, ln, .sipush k0, x, y, z)) (k : Y X n (pc + ln) L (.int (nI x) :: st) ws ts) : Y X n pc L st ws ts := by
  intro H locs ls tys hp hL
  obtain ⟨hd, ⟨e1, e2, e3⟩, -⟩ := E
  have e1 : ln = 3 := e1
  subst e1
  exact lv_sipush hC.1.1 hC.1.2.1 hd e3 (k H locs ls tys hp hL)
theorem y_lw {k0 : Nat} (hC : y_C X) (E : y_E (y_i X) (pc, ln, .ldc_w k0, x, y, z)) (hz : ¬ z = 99) (k : Y X n (pc + ln) L (.int (nI x) :: st) ws ts) : Y X n pc L st ws ts := by
  intro H locs ls tys hp hL
  obtain ⟨hd, e0 | ⟨e1, e2, e3⟩, -⟩ := E
  · exact absurd e0 hz
  have e1 : ln = 3 := e1
  subst e1
  exact lv_ldcw hC.1.1 hC.1.2.1 hC.1.2.2.2.2.1 (hC.1.2.2.2.2.2.1 _ e3) hd (k H locs ls tys hp hL)
theorem y_l2 {k0 : Nat} (hC : y_C X) (E : y_E (y_i X) (pc, ln, .ldc2_w k0, x, y, z)) (hz : ¬ z = 99) (k : Y X n (pc + ln) L (.long (z_lcv x) :: st) ws ts) : Y X n pc L st ws ts := by
  intro H locs ls tys hp hL
  obtain ⟨hd, -, e0 | ⟨e1, e3⟩⟩ := E
  · exact absurd e0 hz
  have e1 : ln = 3 := e1
  subst e1
  exact lv_ldc2 hC.1.1 hC.1.2.1 hC.1.2.2.2.2.1 (hC.1.2.2.2.2.2.1 _ e3) hd (k H locs ls tys hp hL)
theorem y_il {k0 : Nat} (hC : y_C X) (E : y_E (y_i X) (pc, ln, .iload k0, x, y, z)) (hv : L[x]? = some (some (.int v))) (k : Y X n (pc + ln) L (.int v :: st) ws ts) : Y X n pc L st ws ts := by
  intro H locs ls tys hp hL
  obtain ⟨hd, ⟨e1, e2⟩, -⟩ := E
  have e1 : ln = 2 := e1
  have e2 : k0 = x := e2
  subst e1
  subst e2
  exact lv_iload hC.1.1 hC.1.2.1 hd (hL.get hv) (k H locs ls tys hp hL)
theorem y_iln {k0 : Fin 4} (hC : y_C X) (E : y_E (y_i X) (pc, ln, .iload_n k0, x, y, z)) (hv : L[x]? = some (some (.int v))) (k : Y X n (pc + ln) L (.int v :: st) ws ts) : Y X n pc L st ws ts := by
  intro H locs ls tys hp hL
  obtain ⟨hd, ⟨e1, e2⟩, -⟩ := E
  have e1 : ln = 1 := e1
  subst e1
  exact lv_iload_n hC.1.1 hC.1.2.1 hd e2 (hL.get hv) (k H locs ls tys hp hL)
theorem y_aln {k0 : Fin 4} (hC : y_C X) (E : y_E (y_i X) (pc, ln, .aload_n k0, x, y, z)) (hv : L[x]? = some (some (.ref a))) (k : Y X n (pc + ln) L (.ref a :: st) ws ts) : Y X n pc L st ws ts := by
  intro H locs ls tys hp hL
  obtain ⟨hd, ⟨e1, e2⟩, -⟩ := E
  have e1 : ln = 1 := e1
  subst e1
  exact lv_aload_n hC.1.1 hC.1.2.1 hd e2 (hL.get hv) (k H locs ls tys hp hL)
theorem y_is {k0 : Nat} (hC : y_C X) (E : y_E (y_i X) (pc, ln, .istore k0, x, y, z)) (k : Y X n (pc + ln) (L.set x (some (.int v))) st ws ts) : Y X n pc L (.int v :: st) ws ts := by
  intro H locs ls tys hp hL
  obtain ⟨hd, ⟨e1, e2, e3⟩, -⟩ := E
  have e1 : ln = 2 := e1
  have e2 : k0 = x := e2
  subst e1
  subst e2
  obtain ⟨l1, lv, l2, l3, l4⟩ := hL
  exact lv_istore hC.1.1 hC.1.2.1 hd l2 e3 rfl (fun ls2 hl2 => k H locs ls2 tys hp (y_L.store l1 l4 l3 rfl hl2))
theorem y_isn {k0 : Fin 4} (hC : y_C X) (E : y_E (y_i X) (pc, ln, .istore_n k0, x, y, z)) (k : Y X n (pc + ln) (L.set x (some (.int v))) st ws ts) : Y X n pc L (.int v :: st) ws ts := by
  intro H locs ls tys hp hL
  obtain ⟨hd, ⟨e1, e2, e3⟩, -⟩ := E
  have e1 : ln = 1 := e1
  subst e1
  obtain ⟨l1, lv, l2, l3, l4⟩ := hL
  exact lv_istore_n hC.1.1 hC.1.2.1 hd e2 l2 e3 rfl (fun ls2 hl2 => k H locs ls2 tys hp (y_L.store l1 l4 l3 rfl hl2))
theorem y_ii {k0 : Nat} {k1 : Int} (hC : y_C X) (E : y_E (y_i X) (pc, ln, .iinc k0 k1, x, y, z)) (hv : L[x]? = some (some (.int v))) (k : Y X n (pc + ln) (L.set x (some (.int (v + nI y)))) st ws ts) : Y X n pc L st ws ts := by
  intro H locs ls tys hp hL
  obtain ⟨hd, ⟨e1, e2, e3, e4, e5⟩, -⟩ := E
  have e1 : ln = 3 := e1
  have e2 : k0 = x := e2
  subst e1
  subst e2
  obtain ⟨l1, lv, l2, l3, l4⟩ := hL
  obtain ⟨kk, hkk⟩ := List.getElem?_of_mem (l4 _ _ hv)
  have e5 : Int32.ofInt k1 = nI y := e5
  exact lv_iinc hC.1.1 hC.1.2.1 hd l2 hkk (by rw [e5]) e3 rfl (fun ls2 hl2 => k H locs ls2 tys hp (y_L.store l1 l4 l3 rfl hl2))
theorem y_add (hC : y_C X) (E : y_E (y_i X) (pc, ln, .iadd, x, y, z)) (k : Y X n (pc + ln) L (.int (v + w) :: st) ws ts) : Y X n pc L (.int w :: .int v :: st) ws ts := by
  intro H locs ls tys hp hL
  obtain ⟨hd, e1, -⟩ := E
  have e1 : ln = 1 := e1
  subst e1
  exact lv_iadd hC.1.1 hC.1.2.1 hd (k H locs ls tys hp hL)
theorem y_sub (hC : y_C X) (E : y_E (y_i X) (pc, ln, .isub, x, y, z)) (k : Y X n (pc + ln) L (.int (v - w) :: st) ws ts) : Y X n pc L (.int w :: .int v :: st) ws ts := by
  intro H locs ls tys hp hL
  obtain ⟨hd, e1, -⟩ := E
  have e1 : ln = 1 := e1
  subst e1
  exact lv_isub hC.1.1 hC.1.2.1 hd (k H locs ls tys hp hL)
theorem y_and (hC : y_C X) (E : y_E (y_i X) (pc, ln, .iand, x, y, z)) (k : Y X n (pc + ln) L (.int (v &&& w) :: st) ws ts) : Y X n pc L (.int w :: .int v :: st) ws ts := by
  intro H locs ls tys hp hL
  obtain ⟨hd, e1, -⟩ := E
  have e1 : ln = 1 := e1
  subst e1
  exact lv_iand hC.1.1 hC.1.2.1 hd (k H locs ls tys hp hL)
theorem y_div (hC : y_C X) (E : y_E (y_i X) (pc, ln, .idiv, x, y, z)) (hne : ¬ w = 0) (k : Y X n (pc + ln) L (.int (v / w) :: st) ws ts) : Y X n pc L (.int w :: .int v :: st) ws ts := by
  intro H locs ls tys hp hL
  obtain ⟨hd, e1, -⟩ := E
  have e1 : ln = 1 := e1
  subst e1
  exact lv_idiv hC.1.1 hC.1.2.1 hd hne (k H locs ls tys hp hL)
theorem y_rem (hC : y_C X) (E : y_E (y_i X) (pc, ln, .irem, x, y, z)) (hne : ¬ w = 0) (k : Y X n (pc + ln) L (.int (v - v / w * w) :: st) ws ts) : Y X n pc L (.int w :: .int v :: st) ws ts := by
  intro H locs ls tys hp hL
  obtain ⟨hd, e1, -⟩ := E
  have e1 : ln = 1 := e1
  subst e1
  exact lv_irem hC.1.1 hC.1.2.1 hd hne (k H locs ls tys hp hL)
theorem y_dup (hC : y_C X) (E : y_E (y_i X) (pc, ln, .dup, x, y, z)) (hc : va.category = 1) (k : Y X n (pc + ln) L (va :: va :: st) ws ts) : Y X n pc L (va :: st) ws ts := by
  intro H locs ls tys hp hL
  obtain ⟨hd, e1, -⟩ := E
  have e1 : ln = 1 := e1
  subst e1
  exact lv_dup hC.1.1 hC.1.2.1 hd hc (k H locs ls tys hp hL)
theorem y_dup2 (hC : y_C X) (E : y_E (y_i X) (pc, ln, .dup2, x, y, z)) (h1 : va.category = 1) (h2 : vb.category = 1) (k : Y X n (pc + ln) L (va :: vb :: va :: vb :: st) ws ts) : Y X n pc L (va :: vb :: st) ws ts := by
  intro H locs ls tys hp hL
  obtain ⟨hd, e1, -⟩ := E
  have e1 : ln = 1 := e1
  subst e1
  exact lv_dup2_11 hC.1.1 hC.1.2.1 hd h1 h2 (k H locs ls tys hp hL)
theorem y_if {cd : ClassFile.Cond} {off : Int} (hC : y_C X) (E : y_E (y_i X) (pc, ln, .ifCond cd off, x, y, z)) (k1 : z_cmp cd v 0 → Y X n x L st ws ts) (k2 : z_cmp (z_ng cd) v 0 → Y X n (pc + ln) L st ws ts) : Y X n pc L (.int v :: st) ws ts := by
  intro H locs ls tys hp hL
  obtain ⟨hd, ⟨e1, e2⟩, -⟩ := E
  have e1 : ln = 3 := e1
  subst e1
  exact z_ifc hC.1.1 hC.1.2.1 hd e2 (fun h => k1 h H locs ls tys hp hL) (fun h => k2 h H locs ls tys hp hL)
theorem y_cmp {cd : ClassFile.Cond} {off : Int} (hC : y_C X) (E : y_E (y_i X) (pc, ln, .if_icmp cd off, x, y, z)) (k1 : z_cmp cd v w → Y X n x L st ws ts) (k2 : z_cmp (z_ng cd) v w → Y X n (pc + ln) L st ws ts) : Y X n pc L (.int w :: .int v :: st) ws ts := by
  intro H locs ls tys hp hL
  obtain ⟨hd, ⟨e1, e2⟩, -⟩ := E
  have e1 : ln = 3 := e1
  subst e1
  exact z_icmp hC.1.1 hC.1.2.1 hd e2 (fun h => k1 h H locs ls tys hp hL) (fun h => k2 h H locs ls tys hp hL)
theorem y_go {off : Int} (hC : y_C X) (E : y_E (y_i X) (pc, ln, .goto off, x, y, z)) (k : Y X n x L st ws ts) : Y X n pc L st ws ts := by
  intro H locs ls tys hp hL
  obtain ⟨hd, ⟨e1, e2⟩, -⟩ := E
  have e1 : ln = 3 := e1
  subst e1
  exact lv_goto hC.1.1 hC.1.2.1 hd e2 (k H locs ls tys hp hL)
theorem y_get {k0 j : Nat} {fs : List Value} (hcl : q_clok) (hC : y_C X) (E : y_E (y_i X) (pc, ln, .getfield k0, x, y, z)) (he : ws[j]? = some (a, .inr (x, fs))) (hv : fs[y]? = some va) (k : Y X n (pc + ln) L (va :: st) ws ts) : Y X n pc L (.ref a :: st) ws ts := by
  intro H locs ls tys hp hL
  obtain ⟨hd, ⟨e1, rc, hrc, hy, hlk⟩, -⟩ := E
  have e1 : ln = 3 := e1
  subst e1
  exact va_get (D := y_D X) (ci := x) (C := rc.1) (T := rc.2.1) (N := rc.2.2) hC.1.1 hC.1.2.1 hC.1.2.2.2.2.2.1 (hcl x rc hrc).1 hC.1.2.2.2.2.1 hp.2.2.1 hp.2.1 j he hrc y hy (hC.1.2.2.2.2.2.1 _ hlk) (fun _ h9 => h9) hv hd (k H locs ls tys hp hL)
theorem y_put {k0 j t : Nat} {fs : List Value} (hcl : q_clok) (hC : y_C X) (E : y_E (y_i X) (pc, ln, .putfield k0, x, y, z)) (he : ws[j]? = some (a, .inr (x, fs))) (ht : ts[j]? = some t) (h0 : (y_tt X t).1 = 0) (htv : z_tv (q_ad ws) ts (z_nth (y_tt X t).2.2.1 y) va) (hlen : y < fs.length) (hw : z_wr (y_kw X) t y) (hz : (z = 0 ∧ ∃ w : Int32, va = .int w) ∨ (z = 1 ∧ ∃ b, b < 2 ∧ va = .int (nI b))) (k : Y X n (pc + ln) L st (ws.set j (a, .inr (x, fs.set y va))) ts) : Y X n pc L (va :: .ref a :: st) ws ts := by
  intro H locs ls tys hp hL
  obtain ⟨hd, ⟨e1, rc, hrc, hy, hlk, hfin, ty, hty, hz2⟩, -⟩ := E
  have e1 : ln = 3 := e1
  subst e1
  obtain ⟨en, he2, hc⟩ := hp.1.cell (show (q_ad ws)[j]? = some a by rw [List.getElem?_map, he]; rfl) ht
  rw [he] at he2
  cases he2
  obtain ⟨fs2, e9, f1, f2⟩ := hc.obj h0
  have e10 := Sum.inr.inj e9
  have ex : x = (y_tt X t).2.1 := congrArg Prod.fst e10
  have ef : fs = fs2 := congrArg Prod.snd e10
  rw [← ef] at f1 f2
  clear e9 e10 ef
  have hval : narrow ty va = va ∧ fits ty va = true := by
    rcases hz with ⟨rfl, w, rfl⟩ | ⟨rfl, b, hb, rfl⟩
    · rcases hz2 with ⟨_, rfl⟩ | ⟨h, _⟩ | ⟨h, _⟩ | ⟨h, _⟩
      · exact ⟨rfl, rfl⟩
      all_goals cases h
    · rcases hz2 with ⟨h, _⟩ | ⟨_, rfl⟩ | ⟨h, _⟩ | ⟨h, _⟩
      · cases h
      · exact q_fit_z b hb
      all_goals cases h
  have hc2 : z_cell (q_ad ws) ts tys (y_tt X t) (.inr (x, fs.set y va)) := Or.inl ⟨h0, fs.set y va, by rw [ex], by rw [List.length_set]; exact f1, fun k v hk => by
    by_cases ek : k = y
    · subst ek
      rw [List.getElem?_set_self hlen] at hk
      cases hk
      exact htv
    · rw [List.getElem?_set_ne (fun z => ek z.symm)] at hk
      exact f2 k v hk⟩
  have kk : ∀ (H1 : Heap) (locs1 : List Loc), va_P (y_D X) q_cls (ws.set j (a, .inr (x, fs.set y va))) H1 → va_D (q_A (y_b X)) (ws.set j (a, .inr (x, fs.set y va))) → va_S (q_A (y_b X)) (y_s X).heap H1 locs1 → W (y_p X) (y_l X) (y_e X) (q_rm (y_d X).1 (9 * (y_d X).2) (446 * (y_d X).2)) (y_s X) (y_m X) (y_a X) (y_w X) (y_me X) (y_c X) H1 locs1 (9 * n) (446 * n) (y_Q X) (F0 (y_m X) (pc + 3) ls st) := by
    intro H1 locs1 hP1 hD1 hS1
    refine k H1 locs1 ls tys (hp.set he ht hc2 (fun q v hq hnw => ?_) hP1 hD1 hS1) hL
    have ek : ¬ q = y := fun h => hnw (by rw [h]; exact hw)
    show (fs.set y va)[q]? = some v
    rw [List.getElem?_set_ne (fun z => ek z.symm)]
    exact hq
  rcases hfin with hfin | ⟨hfin, hi1, hi2⟩
  · exact va_put (D := y_D X) (ci := x) (C := rc.1) (T := rc.2.1) (N := rc.2.2) hC.1.1 hC.1.2.1 hC.1.2.2.2.2.2.1 (hcl _ rc hrc).1 _ (hcl _ rc hrc).2.1 (hcl _ rc hrc).2.2 hC.1.2.2.2.2.1 hp.2.2.1 hp.2.1 hp.2.2.2.1 hp.2.2.2.2.1 _ he hrc y hy (hC.1.2.2.2.2.2.1 _ hlk) (fun _ h9 => h9) hfin hty hval.1 hval.2 hlen hd kk
  · exact va_putF (D := y_D X) (ci := x) (C := rc.1) (T := rc.2.1) (N := rc.2.2) hC.1.1 hC.1.2.1 hC.1.2.2.2.2.2.1 (hcl _ rc hrc).1 _ (hcl _ rc hrc).2.1 (hcl _ rc hrc).2.2 hC.1.2.2.2.2.1 hp.2.2.1 hp.2.1 hp.2.2.2.1 hp.2.2.2.2.1 _ he hrc y hy (hC.1.2.2.2.2.2.1 _ hlk) (fun _ h9 => h9) hfin (hC.1.2.2.2.2.2.2.2.2.1.trans hi1) hi2 hty hval.1 hval.2 hlen hd kk
theorem y_ald {j t N q : Nat} {cA : ClassId} {f : Nat → Int32} (hC : y_C X) (E : y_E (y_i X) (pc, ln, .iaload, x, y, z)) (he : ws[j]? = some (a, .inl (cA, N, .inl f))) (ht : ts[j]? = some t) (h1 : (y_tt X t).1 = 1) (hq : q < N) (hN : N < 2147483648) (k : Y X n (pc + ln) L (.int (f q) :: st) ws ts) : Y X n pc L (.int (nI q) :: .ref a :: st) ws ts := by
  intro H locs ls tys hp hL
  obtain ⟨hd, e1, -⟩ := E
  have e1 : ln = 1 := e1
  subst e1
  obtain ⟨en, he2, hc⟩ := hp.1.cell (show (q_ad ws)[j]? = some a by rw [List.getElem?_map, he]; rfl) ht
  rw [he] at he2
  cases he2
  obtain ⟨cA2, t2, f2, e9, h2, h3⟩ := hc.ints h1
  cases e9
  have ec : (nI q).toNatClampNeg = q := nI_clamp (by omega)
  have := va_iald (p := y_p X) (l := y_l X) (e := y_e X) (R := q_rm (y_d X).1 (9 * (y_d X).2) (446 * (y_d X).2)) (s := y_s X) (m := y_m X) (args := y_a X) (below := y_w X) (meth := y_me X) (c := y_c X) (cells := 9 * n) (slots := 446 * n) (Q := y_Q X) (ls := ls) (rest := st) hC.1.1 hC.1.2.1 hp.2.2.1 hp.2.1 j t2 he h2 (vp_in_nI hq (by omega)) hd (by rw [ec]; exact k H locs ls tys hp hL)
  exact this
theorem y_ast {j t N q : Nat} {cA : ClassId} {f : Nat → Int32} (hC : y_C X) (E : y_E (y_i X) (pc, ln, .iastore, x, y, z)) (he : ws[j]? = some (a, .inl (cA, N, .inl f))) (ht : ts[j]? = some t) (h1 : (y_tt X t).1 = 1) (hq : q < N) (hN : N < 2147483648) (hb : (z_el (y_tt X t).2.2.1 (q % (y_tt X t).2.2.2.1)).1 ≤ q_qb v ∧ q_qb v ≤ (z_el (y_tt X t).2.2.1 (q % (y_tt X t).2.2.2.1)).2) (hw : z_wr (y_kw X) t q) (k : Y X n (pc + ln) L st (ws.set j (a, .inl (cA, N, .inl (upd f q v)))) ts) : Y X n pc L (.int v :: .int (nI q) :: .ref a :: st) ws ts := by
  intro H locs ls tys hp hL
  obtain ⟨hd, e1, -⟩ := E
  have e1 : ln = 1 := e1
  subst e1
  obtain ⟨en, he2, hc⟩ := hp.1.cell (show (q_ad ws)[j]? = some a by rw [List.getElem?_map, he]; rfl) ht
  rw [he] at he2
  cases he2
  obtain ⟨cA2, t2, f2, e9, h2, h3⟩ := hc.ints h1
  cases e9
  have ec : (nI q).toNatClampNeg = q := nI_clamp (by omega)
  have hc2 : z_cell (q_ad ws) ts tys (y_tt X t) (.inl (cA, (y_tt X t).2.1, .inl (upd f q v))) := Or.inr (Or.inl ⟨h1, cA, t2, _, rfl, h2, fun k hk => by
    by_cases ek : k = q
    · subst ek
      rw [pk_us]
      exact hb
    · rw [pk_un ek]
      exact h3 k hk⟩)
  refine va_iast hC.1.1 hC.1.2.1 hp.2.2.1 hp.2.1 hp.2.2.2.1 hp.2.2.2.2.1 j t2 he h2 (vp_in_nI hq (by omega)) hd (fun H1 locs1 hP1 hD1 hS1 => ?_)
  rw [ec] at hP1 hD1
  exact k H1 locs1 ls tys (hp.set he ht hc2 (fun k v hk hnw => z_upd_in hk (fun e9 => hnw (by rw [e9]; exact hw))) hP1 hD1 hS1) hL
/-- a call of a method with a contract -/
theorem y_vir {k0 : Nat} {dd : Nat × Nat} {kc : List z_C} {post : Option Value → va_W → List Nat → Prop} {As rv fs : List Value} {j : Nat} (hok : ∀ i, i < q_nM → q_mok i) (hC : y_C X) (E : y_E (y_i X) (pc, ln, .invokevirtual k0, x, y, z)) (hz9 : ¬ z = 99) (hM : z_Met (y_l X) (y_b X) (y_D X) (y_sa X) (y_tt X) kc dd x (.ref a :: As) ws ts post) (he : ws[j]? = some (a, .inr (z, fs))) (hst : st = As.reverse ++ .ref a :: rv) (hAl : As.length + 1 = y) (hd1 : dd.1 + 1 ≤ (y_d X).1) (hd2 : n + dd.2 ≤ (y_d X).2) (hcs : (rv.map fun v => v.category).sum ≤ 8) (hkc : ∀ t q, z_wr kc t q → z_wr (y_kw X) t q) (k : ∀ (v : Option Value) (ws' : va_W) (ts' : List Nat), z_Fr kc ws ts ws' ts' → post v ws' ts' → Y X (n + dd.2) (pc + ln) L (v.toList ++ rv) ws' ts') : Y X n pc L st ws ts := by
  intro H locs ls tys hp hL
  obtain ⟨hd, e0 | ⟨e1, hx, hym, hy, hdesc, hin, hsel, ⟨rc, hrc, hrc1⟩, hlk⟩, -⟩ := E
  · exact absurd e0 hz9
  have e1 : ln = 3 := e1
  subst e1
  subst hst
  have hx : x < q_nM := hx
  have hAl : As.length = y - 1 := by omega
  obtain ⟨k1, k2, k3, k4, k5, k6, -⟩ := hok x hx
  obtain ⟨-, lv, hl, -⟩ := id hL
  refine z_after (va_runV (Ts := q_w0) (own := (q_y (y_i X)).cls) (C := (q_y x).cls) (nL := q_ml (y_i X)) (As := As) (b := a) ⟨hC.1.1, hC.1.2.1, hC.1.2.2.2.1, hC.1.2.2.2.2.1, hC.1.2.2.2.2.2.1⟩ hM ⟨callB_of (y - 1) hC.1.2.2.2.2.2.1 (q_goodIn k1) rfl rfl rfl (hC.1.2.2.2.2.2.1 _ k3) (hC.1.2.2.2.2.2.1 _ hlk) ⟨k4, k5, hdesc⟩ ⟨hd1, by show 8 + (q_ml x + 11) + 40 * dd.1 ≤ 40 * (y_d X).1; omega⟩, hC.1.2.2.2.2.2.1 _ hin, hC.1.2.2.2.2.2.1 _ hsel⟩ ⟨z_blind, by rw [← hrc1]; exact va_recv hp.2.2.1 hp.2.1 hrc he, fun U hU hW => ⟨rfl, by rw [hU]; exact Nat.le_trans hC.1.2.2.2.2.2.2.2.2.2 hp.2.2.2.2.1.1, q_X.warm hW hC.1.2.2.2.2.2.2.1, hC.2.1.go hW hU hp.2.2.2.2.1, tys, hp.1, by rw [hU]; exact hp.2.1, va_K.moved hW.alike hp.2.2.1, hp.2.2.2.1⟩⟩ rfl hAl hl.1 rfl (lv_room hcs) hd ⟨?_, ?_⟩) hp.2.2.2.2.1 (fun v ws1 tys1 ts1 H1 locs1 h1 h2 h3 h4 h5 h6 h7 => ?_)
  · show 9 * n + 9 * dd.2 ≤ 9 * (y_d X).2
    omega
  · show 446 * n + 446 * dd.2 ≤ 446 * (y_d X).2
    omega
  · have z1 : 9 * n + 9 * dd.2 = 9 * (n + dd.2) := by omega
    have z2 : 446 * n + 446 * dd.2 = 446 * (n + dd.2) := by omega
    rw [z1, z2]
    exact k v ws1 ts1 h5 h6 H1 locs1 ls tys1 ⟨h1, h2, h3, h4, h7, hp.2.2.2.2.2.trans (h5.wide hkc)⟩ hL
theorem y_sta {k0 : Nat} {dd : Nat × Nat} {kc : List z_C} {post : Option Value → va_W → List Nat → Prop} {av rv : List Value} (hok : ∀ i, i < q_nM → q_mok i) (hC : y_C X) (E : y_E (y_i X) (pc, ln, .invokestatic k0, x, y, z)) (hz9 : ¬ z = 99) (hz7 : ¬ z = 77) (hM : z_Met (y_l X) (y_b X) (y_D X) (y_sa X) (y_tt X) kc dd x av ws ts post) (hst : st = av.reverse ++ rv) (hAl : av.length = y) (hd1 : dd.1 + 1 ≤ (y_d X).1) (hd2 : n + dd.2 ≤ (y_d X).2) (hcs : (rv.map fun v => v.category).sum ≤ 8) (hkc : ∀ t q, z_wr kc t q → z_wr (y_kw X) t q) (k : ∀ (v : Option Value) (ws' : va_W) (ts' : List Nat), z_Fr kc ws ts ws' ts' → post v ws' ts' → Y X (n + dd.2) (pc + ln) L (v.toList ++ rv) ws' ts') : Y X n pc L st ws ts := by
  intro H locs ls tys hp hL
  obtain ⟨hd, e0 | ⟨e1, e0 | ⟨-, hx, hym, hdesc, hst2, hlk⟩⟩, -⟩ := E
  · exact absurd e0 hz9
  · exact absurd e0.1 hz7
  have e1 : ln = 3 := e1
  subst e1
  subst hst
  have hx : x < q_nM := hx
  obtain ⟨k1, k2, k3, k4, k5, k6, -⟩ := hok x hx
  obtain ⟨-, lv, hl, -⟩ := id hL
  have hPre : PreS (y_s X) H (z_Pc (y_b X) (y_D X) (y_sa X) (y_tt X) av ws ts) av := ⟨z_blind, fun U hU hW => ⟨rfl, by rw [hU]; exact Nat.le_trans hC.1.2.2.2.2.2.2.2.2.2 hp.2.2.2.2.1.1, q_X.warm hW hC.1.2.2.2.2.2.2.1, hC.2.1.go hW hU hp.2.2.2.2.1, tys, hp.1, by rw [hU]; exact hp.2.1, va_K.moved hW.alike hp.2.2.1, hp.2.2.2.1⟩⟩
  have hrm : (q_rm dd.1 (9 * dd.2) (446 * dd.2)).frames + 1 ≤ (q_rm (y_d X).1 (9 * (y_d X).2) (446 * (y_d X).2)).frames ∧ 8 + (q_ml x + 11) + (q_rm dd.1 (9 * dd.2) (446 * dd.2)).locals ≤ (q_rm (y_d X).1 (9 * (y_d X).2) (446 * (y_d X).2)).locals := ⟨hd1, by show 8 + (q_ml x + 11) + 40 * dd.1 ≤ 40 * (y_d X).1; omega⟩
  have hfc : 9 * n + 9 * dd.2 ≤ (q_rm (y_d X).1 (9 * (y_d X).2) (446 * (y_d X).2)).cells ∧ 446 * n + 446 * dd.2 ≤ (q_rm (y_d X).1 (9 * (y_d X).2) (446 * (y_d X).2)).slots := ⟨by show 9 * n + 9 * dd.2 ≤ 9 * (y_d X).2; omega, by show 446 * n + 446 * dd.2 ≤ 446 * (y_d X).2; omega⟩
  have hrun : va_Run (y_p X) (y_l X) (y_e X) (q_rm (y_d X).1 (9 * (y_d X).2) (446 * (y_d X).2)) (y_s X) (y_m X) (y_a X) (y_w X) (y_me X) (y_c X) H locs (9 * n) (446 * n) (9 * dd.2) (446 * dd.2) (F0 (y_m X) pc ls (av.reverse ++ rv)) rv (z_Qc (y_b X) (y_D X) (y_tt X) kc ws ts post av.toArray) (q_A (y_b X)) := by
    rcases hlk with hlk | ⟨host, hlk⟩
    · exact va_runS (Ts := q_w0) (own := (q_y (y_i X)).cls) (nL := q_ml (y_i X)) (As := av) ⟨hC.1.1, hC.1.2.1, hC.1.2.2.2.1, hC.1.2.2.2.2.1, hC.1.2.2.2.2.2.1⟩ hM ⟨callB_of y hC.1.2.2.2.2.2.1 (q_goodIn k1) rfl rfl rfl (hC.1.2.2.2.2.2.1 _ k3) (hC.1.2.2.2.2.2.1 _ hlk) ⟨k4, k5, hdesc⟩ hrm, hC.1.2.2.2.2.2.1 _ hst2⟩ hPre rfl hAl hl.1 rfl (lv_room hcs) hd hfc
    · exact va_runSN (Ts := q_w0) (own := (q_y (y_i X)).cls) (nL := q_ml (y_i X)) (As := av) ⟨hC.1.1, hC.1.2.1, hC.1.2.2.2.1, hC.1.2.2.2.2.1, hC.1.2.2.2.2.2.1⟩ hM ⟨va_cnB y hC.1.2.2.2.2.2.1 (q_goodIn k1) rfl rfl rfl (hC.1.2.2.2.2.2.2.1.1 _ hlk) (hC.1.2.2.2.2.2.1 _ k3) ⟨k4, k5, hdesc⟩ hrm, hC.1.2.2.2.2.2.1 _ hst2, trivial⟩ hPre rfl hAl hl.1 rfl (lv_room hcs) hd hfc
  refine z_after hrun hp.2.2.2.2.1 (fun v ws1 tys1 ts1 H1 locs1 h1 h2 h3 h4 h5 h6 h7 => ?_)
  have z1 : 9 * n + 9 * dd.2 = 9 * (n + dd.2) := by omega
  have z2 : 446 * n + 446 * dd.2 = 446 * (n + dd.2) := by omega
  rw [z1, z2]
  exact k v ws1 ts1 h5 h6 H1 locs1 ls tys1 ⟨h1, h2, h3, h4, h7, hp.2.2.2.2.2.trans (h5.wide hkc)⟩ hL
/-- the end that a contract wants -/
def y_end (X : y_X) (post : Option Value → va_W → List Nat → Prop) : Prop := y_Q X = MQ (y_w X) (z_Qc (y_b X) (y_D X) (y_tt X) (y_kw X) (y_w0 X) (y_t0 X) post) (y_a X) (y_s X) (9 * (y_d X).2) (446 * (y_d X).2) (q_A (y_b X))
theorem y_qc {post : Option Value → va_W → List Nat → Prop} {H : Heap} {locs : List Loc} {tys : List (ClassId × FieldType)} {o : Option Value} (hp : z_Hp (y_b X) (y_D X) (y_tt X) (y_kw X) (y_s X) (y_w0 X) (y_t0 X) H locs ws tys ts) (h : post o ws ts) : ∀ t : State, t.heap = H → (y_s X).WarmedH t.vm → z_Qc (y_b X) (y_D X) (y_tt X) (y_kw X) (y_w0 X) (y_t0 X) post (y_a X) (y_s X) (.returned o) t := fun t ht hW => ⟨⟨o, ws, tys, ts, rfl, hp.1, by rw [ht]; exact hp.2.1, va_K.moved hW.alike hp.2.2.1, hp.2.2.2.1, hp.2.2.2.2.2, h⟩, hp.2.2.2.2.1.F ht⟩
theorem y_ir {post : Option Value → va_W → List Nat → Prop} (hC : y_C X) (hQ : y_end X post) (E : y_E (y_i X) (pc, ln, .ireturn, 0, y, z)) (hn : n ≤ (y_d X).2) (h : post (some (.int v)) ws ts) : Y X n pc L [.int v] ws ts := by
  intro H locs ls tys hp hL
  obtain ⟨hd, ⟨e1, e2⟩, -⟩ := E
  have e1 : ln = 1 := e1
  subst e1
  have e2 : q_rt (y_i X) = some .int := by
    rcases e2 with ⟨_, h⟩ | ⟨h, _⟩ | h
    · exact h
    · cases h
    · have h : 2 ≤ 0 := h
      omega
  rw [hQ]
  refine W.widen (k := 9 * (y_d X).2) (n := 446 * (y_d X).2) (by omega) (by omega) ?_
  exact W.iret hC.1.1 hC.1.2.1 (hC.1.2.2.1.trans e2) (y_qc hp h) hp.2.2.2.2.1.2.2 hd hC.1.2.2.2.2.2.2.2.1
theorem y_zr {post : Option Value → va_W → List Nat → Prop} {b : Nat} (hC : y_C X) (hQ : y_end X post) (E : y_E (y_i X) (pc, ln, .ireturn, 1, y, z)) (hn : n ≤ (y_d X).2) (hb : b < 2) (h : post (some (.int (nI b))) ws ts) : Y X n pc L [.int (nI b)] ws ts := by
  intro H locs ls tys hp hL
  obtain ⟨hd, ⟨e1, e2⟩, -⟩ := E
  have e1 : ln = 1 := e1
  subst e1
  have e2 : q_rt (y_i X) = some .boolean := by
    rcases e2 with ⟨h, _⟩ | ⟨_, h⟩ | h
    · cases h
    · exact h
    · have h : 2 ≤ 1 := h
      omega
  rw [hQ]
  refine W.widen (k := 9 * (y_d X).2) (n := 446 * (y_d X).2) (by omega) (by omega) ?_
  exact W.zret hC.1.1 hC.1.2.1 (hC.1.2.2.1.trans e2) (q_fit_z b hb).1 (y_qc hp h) hp.2.2.2.2.1.2.2 hd hC.1.2.2.2.2.2.2.2.1
theorem y_vr {post : Option Value → va_W → List Nat → Prop} (hC : y_C X) (hQ : y_end X post) (E : y_E (y_i X) (pc, ln, .return_, x, y, z)) (hn : n ≤ (y_d X).2) (h : post none ws ts) : Y X n pc L [] ws ts := by
  intro H locs ls tys hp hL
  obtain ⟨hd, ⟨e1, e2⟩, -⟩ := E
  have e1 : ln = 1 := e1
  subst e1
  rw [hQ]
  refine W.widen (k := 9 * (y_d X).2) (n := 446 * (y_d X).2) (by omega) (by omega) ?_
  exact W.vret hC.1.1 hC.1.2.1 (hC.1.2.2.1.trans e2) (y_qc hp h) hp.2.2.2.2.1.2.2 hd hC.1.2.2.2.2.2.2.2.1
end YR
/-- a walk from the first instruction is the contract -/
theorem y_meth {l : Launch} {base : Nat} {D : va_G} {sa : Nat → Nat} {tt : Nat → z_T} {kw : List z_C} {J : va_W → List Nat → Prop} {d : Nat × Nat} {x : Nat} {av : List Value} {ws : va_W} {ts : List Nat} {post : Option Value → va_W → List Nat → Prop} (hmok : q_mok x) (hcat : ∀ v ∈ av, v.category = 1) (hlen : av.length ≤ q_ml x) (hJ : ∀ ws' ts', z_Fr kw ws ts ws' ts' → J ws' ts')
    (hk : ∀ (p : Program) (e : Env) (s : State) (m : MethodId) (below : List Frame) (meth : Method) (c : Code) (X : y_X), X = ((l, base, D, sa, tt, kw, J), (d, x, p, e, s, m, av.toArray), (below, meth, c, MQ below (z_Qc base D tt kw ws ts post) av.toArray s (9 * d.2) (446 * d.2) (q_A base), ws, ts)) → y_C X → y_end X post → Y X 0 0 (av.map some ++ List.replicate (q_ml x - av.length) none) [] ws ts) : z_Met l base D sa tt kw d x av ws ts post := by
  refine va_MetF (cc := q_b x) (maxL := q_ml x) (ret := q_rt x) hmok.2.1 rfl ?_
  intro p e s m args below meth c s₁ B hml hv
  obtain ⟨rfl, hbase, hX, hT, tys, hw, hP, hK, hD⟩ := hv
  have hts := atoms_spec (ws := q_wy x) B.pre
  have hown : s.vm.findClass (q_y x).cls = some m.cls := findClass_of_methodNamed B.named
  have hin : meth.name = (q_y x).name := (name_of_methodNamed B.named B.method).1
  have hsl := q_sl1 av hcat
  have hl := lv_entry av (n := q_ml x) (by omega)
  rw [lg_entry_eq]
  generalize (lg_sl av ++ List.replicate (q_ml x - (lg_sl av).length) Slot.unset).toArray = ls at hl ⊢
  have hL : y_L (av.map some ++ List.replicate (q_ml x - av.length) none) (q_ml x) ls := by
    refine ⟨by rw [List.length_append, List.length_map, List.length_replicate]; omega, _, hl, fun q hq => hcat _ (q_args_in av 0 q hq), fun k v hk => ?_⟩
    rcases Nat.lt_or_ge k av.length with hi | hi
    · rw [List.getElem?_append_left (by rw [List.length_map]; exact hi), List.getElem?_map] at hk
      cases h9 : av[k]? with
      | none => rw [h9] at hk; cases hk
      | some w =>
        rw [h9] at hk
        cases hk
        have := q_args_at av 0 hcat k _ h9
        rw [Nat.zero_add] at this
        exact this
    · rw [List.getElem?_append_right (by rw [List.length_map]; exact hi)] at hk
      have := List.mem_of_getElem? hk
      cases (List.mem_replicate.mp this).2
  have C : z_Cx base sa kw J x p s m av.toArray meth c ws ts := ⟨⟨B.exec, B.bytes, B.returns, hml, hown, fun w hw => hts w (List.mem_cons_of_mem _ hw), hX, B.notSynchronized, hin, hbase⟩, hT, hJ⟩
  exact hk p e s m below meth c _ rfl C rfl s.heap [] ls tys ⟨hw, hP, hK, hD, va_S.rf, z_Fr.rf _ _ _⟩ hL
