/-! ===== instruction by instruction: what leaves the heap alone ===== -/
theorem z_nth_at {l : List z_C} {k : Nat} {c : z_C} (h : z_nth l k = c) (hc : ¬ c.1 = 9) : l[k]? = some c := by
  have h : q_nth l (9, 0, 0) k = c := h
  rw [q_nth_eq, List.getD_eq_getElem?_getD] at h
  cases h2 : l[k]? with
  | none => rw [h2] at h; exact absurd (show c.1 = 9 by rw [← h]; rfl) hc
  | some d => rw [h2] at h; exact congrArg some h
/-- a local is read -/
theorem z_Lr.get {sa : Nat → Nat} {ad ts : List Nat} {vs : List Value} {L : List z_C} {nL : Nat} {ls : Array Slot} (h : z_Lr sa ad ts vs L nL ls) {k : Nat} (hc : ¬ (z_nth L k).1 = 9) : ∃ v, ls[k]? = some (.val v) ∧ z_v sa ad ts vs (z_nth L k) v := by
  obtain ⟨h1, lv, h2, h3⟩ := h
  rcases h3 k _ (z_nth_at rfl hc) with h4 | ⟨v, h4, h5⟩
  · exact absurd h4 hc
  · exact ⟨v, h2.2.2 _ h4, h5⟩
theorem z_lset_len : ∀ (l : List z_C) (k : Nat) (c : z_C), (z_lset l k c).length = l.length
  | [], _, _ => rfl
  | _ :: _, 0, _ => rfl
  | a :: t, k + 1, c => congrArg (· + 1) (z_lset_len t k c)
theorem z_lset_get : ∀ (l : List z_C) (k : Nat) (c : z_C) (j : Nat) (e : z_C), (z_lset l k c)[j]? = some e → (j = k ∧ e = c) ∨ (¬ j = k ∧ l[j]? = some e)
  | [], _, _, _, _, h => by cases h
  | _ :: _, 0, c, 0, e, h => Or.inl ⟨rfl, (Option.some.inj h).symm⟩
  | _ :: t, 0, c, j + 1, e, h => Or.inr ⟨by omega, h⟩
  | a :: t, k + 1, c, 0, e, h => Or.inr ⟨by omega, h⟩
  | a :: t, k + 1, c, j + 1, e, h => by
    have h : (z_lset t k c)[j]? = some e := h
    rcases z_lset_get t k c j e h with ⟨h1, h2⟩ | ⟨h1, h2⟩
    · exact Or.inl ⟨by omega, h2⟩
    · exact Or.inr ⟨by omega, h2⟩
theorem z_st1_len (L : List z_C) (x : Nat) (c : z_C) : (z_st1 L x c).length = L.length := by
  cases x with
  | zero => exact z_lset_len L 0 c
  | succ y =>
    show (bif Nat.beq (z_nth L y).1 3 then z_lset (z_lset L y (9, 0, 0)) (y + 1) c else z_lset L (y + 1) c).length = _
    cases Nat.beq (z_nth L y).1 3 with
    | true => exact (z_lset_len _ _ _).trans (z_lset_len _ _ _)
    | false => exact z_lset_len _ _ _
/-- what a local is behind a store -/
theorem z_st1_get {L : List z_C} {x : Nat} {c : z_C} {j : Nat} {e : z_C} (h : (z_st1 L x c)[j]? = some e) : (j = x ∧ e = c) ∨ e.1 = 9 ∨ (¬ j = x ∧ L[j]? = some e ∧ ¬ (j + 1 = x ∧ e.1 = 3)) := by
  cases x with
  | zero =>
    rcases z_lset_get L 0 c j e h with h1 | ⟨h1, h2⟩
    · exact Or.inl h1
    · exact Or.inr (Or.inr ⟨h1, h2, by omega⟩)
  | succ y =>
    have h : (bif Nat.beq (z_nth L y).1 3 then z_lset (z_lset L y (9, 0, 0)) (y + 1) c else z_lset L (y + 1) c)[j]? = some e := h
    cases hb : Nat.beq (z_nth L y).1 3 with
    | true =>
      rw [q_ift _ _ hb] at h
      rcases z_lset_get _ _ _ _ _ h with h1 | ⟨h1, h2⟩
      · exact Or.inl h1
      · rcases z_lset_get _ _ _ _ _ h2 with ⟨_, h3⟩ | ⟨h3, h4⟩
        · exact Or.inr (Or.inl (by rw [h3]))
        · exact Or.inr (Or.inr ⟨h1, h4, by omega⟩)
    | false =>
      rw [q_iff _ _ hb] at h
      rcases z_lset_get _ _ _ _ _ h with h1 | ⟨h1, h2⟩
      · exact Or.inl h1
      · refine Or.inr (Or.inr ⟨h1, h2, fun ⟨h3, h4⟩ => ?_⟩)
        have h5 : j = y := by omega
        subst h5
        have h6 : z_nth L j = e := by
          show q_nth L (9, 0, 0) j = e
          rw [q_nth_eq, List.getD_eq_getElem?_getD, h2]
          rfl
        rw [h6] at hb
        exact q_bneq.mp hb h4
/-- a local is stored -/
theorem z_Lr.store {sa : Nat → Nat} {ad ts : List Nat} {vs : List Value} {L : List z_C} {nL x : Nat} {c : z_C} {v : Value} {lv : List (Nat × Value)} {ls' : Array Slot} (hl : L.length = nL) (h3 : ∀ i c, L[i]? = some c → c.1 = 9 ∨ ∃ v, (i, v) ∈ lv ∧ z_v sa ad ts vs c v) (hv : z_v sa ad ts vs c v) (h : lv_has ls' nL ((x, v) :: lv.filter (fun q => !(q.1 == x) && !(q.1 + 1 == x && q.2.category == 2)))) : z_Lr sa ad ts vs (z_st1 L x c) nL ls' := by
  refine ⟨by rw [z_st1_len]; exact hl, _, h, fun j e he => ?_⟩
  rcases z_st1_get he with ⟨rfl, rfl⟩ | h1 | ⟨h1, h2, h4⟩
  · exact Or.inr ⟨v, List.mem_cons_self, hv⟩
  · exact Or.inl h1
  · rcases h3 j e h2 with h5 | ⟨w, h5, h6⟩
    · exact Or.inl h5
    · refine Or.inr ⟨w, List.mem_cons_of_mem _ (List.mem_filter.mpr ⟨h5, ?_⟩), h6⟩
      by_cases h7 : j + 1 = x
      · have h8 := h6.cat1 (fun z => h4 ⟨h7, z⟩)
        simp [h1, h8]
      · simp [h1, h7]
theorem z_Lr.store2 {sa : Nat → Nat} {ad ts : List Nat} {vs : List Value} {L : List z_C} {nL x : Nat} {c : z_C} {v : Value} {lv : List (Nat × Value)} {ls' : Array Slot} (hl : L.length = nL) (h3 : ∀ i c, L[i]? = some c → c.1 = 9 ∨ ∃ v, (i, v) ∈ lv ∧ z_v sa ad ts vs c v) (hv : z_v sa ad ts vs c v) (h : lv_has ls' nL ((x, v) :: lv.filter (fun q => !(q.1 == x) && (!(q.1 == x + 1) && !(q.1 + 1 == x && q.2.category == 2))))) : z_Lr sa ad ts vs (z_st2 L x c) nL ls' := by
  refine ⟨by unfold z_st2; rw [z_lset_len, z_st1_len]; exact hl, _, h, fun j e he => ?_⟩
  rcases z_lset_get _ _ _ _ _ he with ⟨_, h0⟩ | ⟨h0, he⟩
  · exact Or.inl (by rw [h0])
  · rcases z_st1_get he with ⟨rfl, rfl⟩ | h1 | ⟨h1, h2, h4⟩
    · exact Or.inr ⟨v, List.mem_cons_self, hv⟩
    · exact Or.inl h1
    · rcases h3 j e h2 with h5 | ⟨w, h5, h6⟩
      · exact Or.inl h5
      · refine Or.inr ⟨w, List.mem_cons_of_mem _ (List.mem_filter.mpr ⟨h5, ?_⟩), h6⟩
        have h0 : ¬ j = x + 1 := h0
        by_cases h7 : j + 1 = x
        · have h8 := h6.cat1 (fun z => h4 ⟨h7, z⟩)
          simp [h1, h0, h8]
        · simp [h1, h0, h7]
theorem z_bin_inv {st : List z_C} {k : z_C → z_C → List z_C → Option (List z_O)} {os : List z_O} (h : z_bin st k = some os) : ∃ b a r, st = b :: a :: r ∧ a.1 = 0 ∧ b.1 = 0 ∧ k a b r = some os := by
  match st, h with
  | [], h => cases h
  | [_], h => cases h
  | b :: a :: r, h =>
    obtain ⟨h1, h2⟩ := q_bifs h
    obtain ⟨h3, h4⟩ := q_ands h1
    exact ⟨b, a, r, rfl, q_beq.mp h3, q_beq.mp h4, h2⟩
theorem z_un_inv {st : List z_C} {k : z_C → List z_C → Option (List z_O)} {os : List z_O} (h : z_un st k = some os) : ∃ a r, st = a :: r ∧ a.1 = 0 ∧ k a r = some os := by
  match st, h with
  | [], h => cases h
  | a :: r, h =>
    obtain ⟨h1, h2⟩ := q_bifs h
    exact ⟨a, r, rfl, q_beq.mp h1, h2⟩
theorem z_lngs {sa : Nat → Nat} {ad ts : List Nat} {V : z_V} {vs : List Value} {k : z_V → z_C → Option (List z_O)} {os : List z_O} (hr : z_ld V (3, 0, 0) k = some os) (hE : z_E V vs) (x : Int64) : z_Res sa ad ts V vs k os (.long x) := by
  have hr : z_frv (z_push V 0 0) (fun w => k w (3, V.1, 0)) = some os := hr
  rw [z_frv_eq] at hr
  have h0 : 0 < V.1 := by
    rw [← hE.1]
    exact (List.getElem?_eq_some_iff.mp hE.2.1).1
  exact ⟨_, _, vs ++ [.long x], hr, List.prefix_append _ _, hE.push (v := .long x) (by decide) (by decide) (Or.inl rfl), rfl, Or.inr (Or.inr (Or.inr (Or.inl ⟨rfl, Or.inr ⟨by show ¬ V.1 = 0; omega, z_last hE.1, x, rfl⟩⟩)))⟩
section ZI
variable {l : Launch} {base : Nat} {D : va_G} {sa : Nat → Nat} {g : z_G} {J : va_W → List Nat → Prop} {ih : z_F} {d : Nat × Nat} {i pc ln x y z : Nat} {tl : List q_I} {V : z_V} {L st : List z_C} {sp : List Nat} {cx : List z_X} {os : List z_O}
/-- a value is pushed, or more is done to the stack -/
theorem z_go {pc' : Nat} {U : z_V} {L' S' : List z_C} (hg : z_Ok l base D sa g J d i pc' U L' S' cx os) (hgx : z_gx cx) {p : Program} {e : Env} {s : State} {m : MethodId} {args : Array Value} {below : List Frame} {meth : Method} {c : Code} {Q : State → Prop} {w0 : va_W} {t0 : List Nat} {vs0 : List Value} {H : Heap} {locs : List Loc} {ls : Array Slot} {sv : List Value} {ws : va_W} {tys : List (ClassId × FieldType)} {ts : List Nat} {vs vs' : List Value}
    (C : z_Cx base sa g.2.1 J i p s m args meth c w0 t0) (hp : z_Hp base D g.1 g.2.1 s w0 t0 H locs ws tys ts) (hv : z_Sv sa g.1 vs0 ws ts U vs') (hpre : vs <+: vs') (hL : z_Lr sa (q_ad ws) ts vs' L' (q_ml i) ls) (hs : z_Sr sa (q_ad ws) ts vs' S' sv) (hx : ∀ X ∈ cx, z_Hy l base D sa g d i p e s m args below meth c Q w0 t0 vs0 X vs) (hf : ∀ o ∈ os, z_Fi l base D sa g d i p e s m args below meth c Q w0 t0 vs0 o) {n : Nat} (hn : U.2.2.2.2.2 = n) :
    W p l e (q_rm d.1 (9 * d.2) (446 * d.2)) s m args below meth c H locs (9 * n) (446 * n) Q (F0 m pc' ls sv) := by
  subst hn
  exact hg p e s m args below meth c Q w0 t0 vs0 H locs ls sv ws tys ts vs' C hp hv hL hs (fun X hX => (hx X hX).ext (hgx X hX) hpre) hf
theorem z_s_iconst {n : Int} (hd : decode (q_b i) pc = .ok (.iconst n, ln)) (hk : q_lnk i pc ln (.iconst n) x y z) (hgx : z_gx cx) (hN : z_HN l base D sa g J ih d i (pc + ln) tl sp) (hr : z_step g q_code ih d i (q_code i) pc (.iconst n) x y z tl V L st sp cx = some os) : z_Ok l base D sa g J d i pc V L st cx os := by
  obtain ⟨e1, e2, e3⟩ := hk
  subst e1
  have hg := hN V L ((0, 0, q_bi x) :: st) cx os hgx hr
  intro p e s m args below meth c Q w0 t0 vs0 H locs ls sv ws tys ts vs C hp hv hL hs hx hf
  exact lv_iconst C.1.1 C.1.2.1 hd e3 (z_go hg hgx C hp hv List.prefix_rfl hL (sv := (.int (nI x)) :: sv) ⟨by rw [← q_qb_nI e2]; exact z_v.mkcon hv.2.1, hs⟩ hx hf rfl)
theorem z_s_bipush {n : Int} (hd : decode (q_b i) pc = .ok (.bipush n, ln)) (hk : q_lnk i pc ln (.bipush n) x y z) (hgx : z_gx cx) (hN : z_HN l base D sa g J ih d i (pc + ln) tl sp) (hr : z_step g q_code ih d i (q_code i) pc (.bipush n) x y z tl V L st sp cx = some os) : z_Ok l base D sa g J d i pc V L st cx os := by
  obtain ⟨e1, e2, e3⟩ := hk
  subst e1
  have hg := hN V L ((0, 0, q_bi x) :: st) cx os hgx hr
  intro p e s m args below meth c Q w0 t0 vs0 H locs ls sv ws tys ts vs C hp hv hL hs hx hf
  exact lv_bipush C.1.1 C.1.2.1 hd e3 (z_go hg hgx C hp hv List.prefix_rfl hL (sv := (.int (nI x)) :: sv) ⟨by rw [← q_qb_nI e2]; exact z_v.mkcon hv.2.1, hs⟩ hx hf rfl)
theorem z_s_sipush {n : Int} (hd : decode (q_b i) pc = .ok (.sipush n, ln)) (hk : q_lnk i pc ln (.sipush n) x y z) (hgx : z_gx cx) (hN : z_HN l base D sa g J ih d i (pc + ln) tl sp) (hr : z_step g q_code ih d i (q_code i) pc (.sipush n) x y z tl V L st sp cx = some os) : z_Ok l base D sa g J d i pc V L st cx os := by
  obtain ⟨e1, e2, e3⟩ := hk
  subst e1
  have hg := hN V L ((0, 0, q_bi x) :: st) cx os hgx hr
  intro p e s m args below meth c Q w0 t0 vs0 H locs ls sv ws tys ts vs C hp hv hL hs hx hf
  exact lv_sipush C.1.1 C.1.2.1 hd e3 (z_go hg hgx C hp hv List.prefix_rfl hL (sv := (.int (nI x)) :: sv) ⟨by rw [← q_qb_nI e2]; exact z_v.mkcon hv.2.1, hs⟩ hx hf rfl)
theorem z_s_ldc_w {n : Nat} (hd : decode (q_b i) pc = .ok (.ldc_w n, ln)) (hk : q_lnk i pc ln (.ldc_w n) x y z) (hgx : z_gx cx) (hN : z_HN l base D sa g J ih d i (pc + ln) tl sp) (hr : z_step g q_code ih d i (q_code i) pc (.ldc_w n) x y z tl V L st sp cx = some os) : z_Ok l base D sa g J d i pc V L st cx os := by
  have hr : (bif Nat.beq z 99 then none else ih d i (q_code i) tl V L ((0, 0, q_bi x) :: st) sp cx) = some os := hr
  obtain ⟨hz, hr⟩ := q_bifn hr
  rcases hk with hk | ⟨e1, e2, e3⟩
  · exact absurd hk (q_bneq.mp hz)
  subst e1
  have hg := hN V L ((0, 0, q_bi x) :: st) cx os hgx hr
  intro p e s m args below meth c Q w0 t0 vs0 H locs ls sv ws tys ts vs C hp hv hL hs hx hf
  exact lv_ldcw C.1.1 C.1.2.1 C.1.2.2.2.2.1 (C.1.2.2.2.2.2.1 _ e3) hd (z_go hg hgx C hp hv List.prefix_rfl hL (sv := .int (nI x) :: sv) ⟨by rw [← q_qb_nI e2]; exact z_v.mkcon hv.2.1, hs⟩ hx hf rfl)
theorem z_s_null (hd : decode (q_b i) pc = .ok (.aconst_null, ln)) (hk : q_lnk i pc ln (.aconst_null) x y z) (hgx : z_gx cx) (hN : z_HN l base D sa g J ih d i (pc + ln) tl sp) (hr : z_step g q_code ih d i (q_code i) pc (.aconst_null) x y z tl V L st sp cx = some os) : z_Ok l base D sa g J d i pc V L st cx os := by
  have e1 : ln = 1 := hk
  subst e1
  have hg := hN V L ((2, 0, 0) :: st) cx os hgx hr
  intro p e s m args below meth c Q w0 t0 vs0 H locs ls sv ws tys ts vs C hp hv hL hs hx hf
  exact lv_null C.1.1 C.1.2.1 hd (z_go hg hgx C hp hv List.prefix_rfl hL (sv := .null :: sv) ⟨Or.inr (Or.inr (Or.inl ⟨rfl, Or.inl ⟨rfl, rfl⟩⟩)), hs⟩ hx hf rfl)
theorem z_s_iload {n : Nat} (hd : decode (q_b i) pc = .ok (.iload n, ln)) (hk : q_lnk i pc ln (.iload n) x y z) (hgx : z_gx cx) (hN : z_HN l base D sa g J ih d i (pc + ln) tl sp) (hr : z_step g q_code ih d i (q_code i) pc (.iload n) x y z tl V L st sp cx = some os) : z_Ok l base D sa g J d i pc V L st cx os := by
  obtain ⟨e1, e2⟩ := hk
  subst e1
  have hr : (bif Nat.beq (z_nth L x).1 0 then ih d i (q_code i) tl V L (z_nth L x :: st) sp cx else none) = some os := hr
  obtain ⟨h1, hr⟩ := q_bifs hr
  have h1 := q_beq.mp h1
  have hg := hN V L _ cx os hgx hr
  intro p e s m args below meth c Q w0 t0 vs0 H locs ls sv ws tys ts vs C hp hv hL hs hx hf
  obtain ⟨v, hv1, hv2⟩ := hL.get (k := x) (by omega)
  obtain ⟨xx, yy, -, rfl, -⟩ := hv2.int h1
  subst e2
  exact lv_iload C.1.1 C.1.2.1 hd hv1 (z_go hg hgx C hp hv List.prefix_rfl hL (sv := .int yy :: sv) ⟨hv2, hs⟩ hx hf rfl)
theorem z_s_iload_n {n : Fin 4} (hd : decode (q_b i) pc = .ok (.iload_n n, ln)) (hk : q_lnk i pc ln (.iload_n n) x y z) (hgx : z_gx cx) (hN : z_HN l base D sa g J ih d i (pc + ln) tl sp) (hr : z_step g q_code ih d i (q_code i) pc (.iload_n n) x y z tl V L st sp cx = some os) : z_Ok l base D sa g J d i pc V L st cx os := by
  obtain ⟨e1, e2⟩ := hk
  subst e1
  have hr : (bif Nat.beq (z_nth L x).1 0 then ih d i (q_code i) tl V L (z_nth L x :: st) sp cx else none) = some os := hr
  obtain ⟨h1, hr⟩ := q_bifs hr
  have h1 := q_beq.mp h1
  have hg := hN V L _ cx os hgx hr
  intro p e s m args below meth c Q w0 t0 vs0 H locs ls sv ws tys ts vs C hp hv hL hs hx hf
  obtain ⟨v, hv1, hv2⟩ := hL.get (k := x) (by omega)
  obtain ⟨xx, yy, -, rfl, -⟩ := hv2.int h1
  exact lv_iload_n C.1.1 C.1.2.1 hd e2 hv1 (z_go hg hgx C hp hv List.prefix_rfl hL (sv := .int yy :: sv) ⟨hv2, hs⟩ hx hf rfl)
theorem z_s_aload {n : Nat} (hd : decode (q_b i) pc = .ok (.aload n, ln)) (hk : q_lnk i pc ln (.aload n) x y z) (hgx : z_gx cx) (hN : z_HN l base D sa g J ih d i (pc + ln) tl sp) (hr : z_step g q_code ih d i (q_code i) pc (.aload n) x y z tl V L st sp cx = some os) : z_Ok l base D sa g J d i pc V L st cx os := by
  obtain ⟨e1, e2⟩ := hk
  subst e1
  have hr : (bif Nat.beq (z_nth L x).1 1 || (Nat.beq (z_nth L x).1 2 && Nat.beq (z_nth L x).2.2 0) then ih d i (q_code i) tl V L (z_nth L x :: st) sp cx else none) = some os := hr
  obtain ⟨h1, hr⟩ := q_bifs hr
  have h1 : (z_nth L x).1 = 1 ∨ ((z_nth L x).1 = 2 ∧ (z_nth L x).2.2 = 0) := by
    rcases q_ors h1 with h1 | h1
    · exact Or.inl (q_beq.mp h1)
    · exact Or.inr ⟨q_beq.mp (q_ands h1).1, q_beq.mp (q_ands h1).2⟩
  have hg := hN V L _ cx os hgx hr
  intro p e s m args below meth c Q w0 t0 vs0 H locs ls sv ws tys ts vs C hp hv hL hs hx hf
  obtain ⟨v, hv1, hv2⟩ := hL.get (k := x) (by omega)
  subst e2
  rcases hv2.obj h1 with rfl | ⟨a, rfl⟩
  · exact lv_aloadN C.1.1 C.1.2.1 hd hv1 (z_go hg hgx C hp hv List.prefix_rfl hL (sv := .null :: sv) ⟨hv2, hs⟩ hx hf rfl)
  · exact lv_aload C.1.1 C.1.2.1 hd hv1 (z_go hg hgx C hp hv List.prefix_rfl hL (sv := .ref a :: sv) ⟨hv2, hs⟩ hx hf rfl)
theorem z_s_aload_n {n : Fin 4} (hd : decode (q_b i) pc = .ok (.aload_n n, ln)) (hk : q_lnk i pc ln (.aload_n n) x y z) (hgx : z_gx cx) (hN : z_HN l base D sa g J ih d i (pc + ln) tl sp) (hr : z_step g q_code ih d i (q_code i) pc (.aload_n n) x y z tl V L st sp cx = some os) : z_Ok l base D sa g J d i pc V L st cx os := by
  obtain ⟨e1, e2⟩ := hk
  subst e1
  have hr : (bif Nat.beq (z_nth L x).1 1 || (Nat.beq (z_nth L x).1 2 && Nat.beq (z_nth L x).2.2 0) then ih d i (q_code i) tl V L (z_nth L x :: st) sp cx else none) = some os := hr
  obtain ⟨h1, hr⟩ := q_bifs hr
  have h1 : (z_nth L x).1 = 1 ∨ ((z_nth L x).1 = 2 ∧ (z_nth L x).2.2 = 0) := by
    rcases q_ors h1 with h1 | h1
    · exact Or.inl (q_beq.mp h1)
    · exact Or.inr ⟨q_beq.mp (q_ands h1).1, q_beq.mp (q_ands h1).2⟩
  have hg := hN V L _ cx os hgx hr
  intro p e s m args below meth c Q w0 t0 vs0 H locs ls sv ws tys ts vs C hp hv hL hs hx hf
  obtain ⟨v, hv1, hv2⟩ := hL.get (k := x) (by omega)
  rcases hv2.obj h1 with rfl | ⟨a, rfl⟩
  · exact lv_aload_nN C.1.1 C.1.2.1 hd e2 hv1 (z_go hg hgx C hp hv List.prefix_rfl hL (sv := .null :: sv) ⟨hv2, hs⟩ hx hf rfl)
  · exact lv_aload_n C.1.1 C.1.2.1 hd e2 hv1 (z_go hg hgx C hp hv List.prefix_rfl hL (sv := .ref a :: sv) ⟨hv2, hs⟩ hx hf rfl)
theorem z_s_iadd (hd : decode (q_b i) pc = .ok (.iadd, ln)) (hk : q_lnk i pc ln (.iadd) x y z) (hgx : z_gx cx) (hN : z_HN l base D sa g J ih d i (pc + ln) tl sp) (hr : z_step g q_code ih d i (q_code i) pc (.iadd) x y z tl V L st sp cx = some os) : z_Ok l base D sa g J d i pc V L st cx os := by
  have e1 : ln = 1 := hk
  subst e1
  have hr : z_bin st (fun a b r => z_oadd V a b (fun w c => ih d i (q_code i) tl w L (c :: r) sp cx)) = some os := hr
  obtain ⟨b, a, r, rfl, ka, kb, hr⟩ := z_bin_inv hr
  intro p e s m args below meth c Q w0 t0 vs0 H locs ls sv ws tys ts vs C hp hv hL hs hx hf
  obtain ⟨vb, sv1, rfl, hvb, hs1⟩ := hs.cons
  obtain ⟨va, sv2, rfl, hva, hs2⟩ := hs1.cons
  obtain ⟨_, xb, -, rfl, -⟩ := id (hvb.int kb)
  obtain ⟨_, xa, -, rfl, -⟩ := id (hva.int ka)
  have hres : z_Res sa (q_ad ws) ts V vs (fun w c => ih d i (q_code i) tl w L (c :: r) sp cx) os (.int (xa + xb)) := z_oadd_s hr hv.2.1 ka kb hva hvb
  obtain ⟨W1, c1, vs1, k1, k2, k3, k4, k5⟩ := hres
  have hg := hN W1 L (c1 :: r) cx os hgx k1
  exact lv_iadd C.1.1 C.1.2.1 hd (z_go hg hgx C hp (hv.ext k2 k3 k4) k2 (hL.mono k2 List.prefix_rfl List.prefix_rfl) (sv := .int (xa + xb) :: sv2) ⟨k5, z_Sr.mono k2 List.prefix_rfl List.prefix_rfl hs2⟩ hx hf (by rw [k4]))
theorem z_s_isub (hd : decode (q_b i) pc = .ok (.isub, ln)) (hk : q_lnk i pc ln (.isub) x y z) (hgx : z_gx cx) (hN : z_HN l base D sa g J ih d i (pc + ln) tl sp) (hr : z_step g q_code ih d i (q_code i) pc (.isub) x y z tl V L st sp cx = some os) : z_Ok l base D sa g J d i pc V L st cx os := by
  have e1 : ln = 1 := hk
  subst e1
  have hr : z_bin st (fun a b r => z_osub V a b (fun w c => ih d i (q_code i) tl w L (c :: r) sp cx)) = some os := hr
  obtain ⟨b, a, r, rfl, ka, kb, hr⟩ := z_bin_inv hr
  intro p e s m args below meth c Q w0 t0 vs0 H locs ls sv ws tys ts vs C hp hv hL hs hx hf
  obtain ⟨vb, sv1, rfl, hvb, hs1⟩ := hs.cons
  obtain ⟨va, sv2, rfl, hva, hs2⟩ := hs1.cons
  obtain ⟨_, xb, -, rfl, -⟩ := id (hvb.int kb)
  obtain ⟨_, xa, -, rfl, -⟩ := id (hva.int ka)
  have hres : z_Res sa (q_ad ws) ts V vs (fun w c => ih d i (q_code i) tl w L (c :: r) sp cx) os (.int (xa - xb)) := z_osub_s hr hv.2.1 ka kb hva hvb
  obtain ⟨W1, c1, vs1, k1, k2, k3, k4, k5⟩ := hres
  have hg := hN W1 L (c1 :: r) cx os hgx k1
  exact lv_isub C.1.1 C.1.2.1 hd (z_go hg hgx C hp (hv.ext k2 k3 k4) k2 (hL.mono k2 List.prefix_rfl List.prefix_rfl) (sv := .int (xa - xb) :: sv2) ⟨k5, z_Sr.mono k2 List.prefix_rfl List.prefix_rfl hs2⟩ hx hf (by rw [k4]))
theorem z_s_imul (hd : decode (q_b i) pc = .ok (.imul, ln)) (hk : q_lnk i pc ln (.imul) x y z) (hgx : z_gx cx) (hN : z_HN l base D sa g J ih d i (pc + ln) tl sp) (hr : z_step g q_code ih d i (q_code i) pc (.imul) x y z tl V L st sp cx = some os) : z_Ok l base D sa g J d i pc V L st cx os := by
  have e1 : ln = 1 := hk
  subst e1
  have hr : z_bin st (fun a b r => z_omul V a b (fun w c => ih d i (q_code i) tl w L (c :: r) sp cx)) = some os := hr
  obtain ⟨b, a, r, rfl, ka, kb, hr⟩ := z_bin_inv hr
  intro p e s m args below meth c Q w0 t0 vs0 H locs ls sv ws tys ts vs C hp hv hL hs hx hf
  obtain ⟨vb, sv1, rfl, hvb, hs1⟩ := hs.cons
  obtain ⟨va, sv2, rfl, hva, hs2⟩ := hs1.cons
  obtain ⟨_, xb, -, rfl, -⟩ := id (hvb.int kb)
  obtain ⟨_, xa, -, rfl, -⟩ := id (hva.int ka)
  have hres : z_Res sa (q_ad ws) ts V vs (fun w c => ih d i (q_code i) tl w L (c :: r) sp cx) os (.int (xa * xb)) := z_omul_s hr hv.2.1 ka kb hva hvb
  obtain ⟨W1, c1, vs1, k1, k2, k3, k4, k5⟩ := hres
  have hg := hN W1 L (c1 :: r) cx os hgx k1
  exact lv_imul C.1.1 C.1.2.1 hd (z_go hg hgx C hp (hv.ext k2 k3 k4) k2 (hL.mono k2 List.prefix_rfl List.prefix_rfl) (sv := .int (xa * xb) :: sv2) ⟨k5, z_Sr.mono k2 List.prefix_rfl List.prefix_rfl hs2⟩ hx hf (by rw [k4]))
theorem z_s_iand (hd : decode (q_b i) pc = .ok (.iand, ln)) (hk : q_lnk i pc ln (.iand) x y z) (hgx : z_gx cx) (hN : z_HN l base D sa g J ih d i (pc + ln) tl sp) (hr : z_step g q_code ih d i (q_code i) pc (.iand) x y z tl V L st sp cx = some os) : z_Ok l base D sa g J d i pc V L st cx os := by
  have e1 : ln = 1 := hk
  subst e1
  have hr : z_bin st (fun a b r => z_oand V a b (fun w c => ih d i (q_code i) tl w L (c :: r) sp cx)) = some os := hr
  obtain ⟨b, a, r, rfl, ka, kb, hr⟩ := z_bin_inv hr
  intro p e s m args below meth c Q w0 t0 vs0 H locs ls sv ws tys ts vs C hp hv hL hs hx hf
  obtain ⟨vb, sv1, rfl, hvb, hs1⟩ := hs.cons
  obtain ⟨va, sv2, rfl, hva, hs2⟩ := hs1.cons
  obtain ⟨_, xb, -, rfl, -⟩ := id (hvb.int kb)
  obtain ⟨_, xa, -, rfl, -⟩ := id (hva.int ka)
  have hres : z_Res sa (q_ad ws) ts V vs (fun w c => ih d i (q_code i) tl w L (c :: r) sp cx) os (.int (xa &&& xb)) := z_oand_s hr hv.2.1 ka kb hva hvb
  obtain ⟨W1, c1, vs1, k1, k2, k3, k4, k5⟩ := hres
  have hg := hN W1 L (c1 :: r) cx os hgx k1
  exact lv_iand C.1.1 C.1.2.1 hd (z_go hg hgx C hp (hv.ext k2 k3 k4) k2 (hL.mono k2 List.prefix_rfl List.prefix_rfl) (sv := .int (xa &&& xb) :: sv2) ⟨k5, z_Sr.mono k2 List.prefix_rfl List.prefix_rfl hs2⟩ hx hf (by rw [k4]))
theorem z_s_ior (hd : decode (q_b i) pc = .ok (.ior, ln)) (hk : q_lnk i pc ln (.ior) x y z) (hgx : z_gx cx) (hN : z_HN l base D sa g J ih d i (pc + ln) tl sp) (hr : z_step g q_code ih d i (q_code i) pc (.ior) x y z tl V L st sp cx = some os) : z_Ok l base D sa g J d i pc V L st cx os := by
  have e1 : ln = 1 := hk
  subst e1
  have hr : z_bin st (fun a b r => z_oor V a b (fun w c => ih d i (q_code i) tl w L (c :: r) sp cx)) = some os := hr
  obtain ⟨b, a, r, rfl, ka, kb, hr⟩ := z_bin_inv hr
  intro p e s m args below meth c Q w0 t0 vs0 H locs ls sv ws tys ts vs C hp hv hL hs hx hf
  obtain ⟨vb, sv1, rfl, hvb, hs1⟩ := hs.cons
  obtain ⟨va, sv2, rfl, hva, hs2⟩ := hs1.cons
  obtain ⟨_, xb, -, rfl, -⟩ := id (hvb.int kb)
  obtain ⟨_, xa, -, rfl, -⟩ := id (hva.int ka)
  have hres : z_Res sa (q_ad ws) ts V vs (fun w c => ih d i (q_code i) tl w L (c :: r) sp cx) os (.int (xa ||| xb)) := z_oor_s hr hv.2.1 ka kb hva hvb (Or.inl rfl)
  obtain ⟨W1, c1, vs1, k1, k2, k3, k4, k5⟩ := hres
  have hg := hN W1 L (c1 :: r) cx os hgx k1
  exact lv_ior C.1.1 C.1.2.1 hd (z_go hg hgx C hp (hv.ext k2 k3 k4) k2 (hL.mono k2 List.prefix_rfl List.prefix_rfl) (sv := .int (xa ||| xb) :: sv2) ⟨k5, z_Sr.mono k2 List.prefix_rfl List.prefix_rfl hs2⟩ hx hf (by rw [k4]))
theorem z_s_ixor (hd : decode (q_b i) pc = .ok (.ixor, ln)) (hk : q_lnk i pc ln (.ixor) x y z) (hgx : z_gx cx) (hN : z_HN l base D sa g J ih d i (pc + ln) tl sp) (hr : z_step g q_code ih d i (q_code i) pc (.ixor) x y z tl V L st sp cx = some os) : z_Ok l base D sa g J d i pc V L st cx os := by
  have e1 : ln = 1 := hk
  subst e1
  have hr : z_bin st (fun a b r => z_oor V a b (fun w c => ih d i (q_code i) tl w L (c :: r) sp cx)) = some os := hr
  obtain ⟨b, a, r, rfl, ka, kb, hr⟩ := z_bin_inv hr
  intro p e s m args below meth c Q w0 t0 vs0 H locs ls sv ws tys ts vs C hp hv hL hs hx hf
  obtain ⟨vb, sv1, rfl, hvb, hs1⟩ := hs.cons
  obtain ⟨va, sv2, rfl, hva, hs2⟩ := hs1.cons
  obtain ⟨_, xb, -, rfl, -⟩ := id (hvb.int kb)
  obtain ⟨_, xa, -, rfl, -⟩ := id (hva.int ka)
  have hres : z_Res sa (q_ad ws) ts V vs (fun w c => ih d i (q_code i) tl w L (c :: r) sp cx) os (.int (xa ^^^ xb)) := z_oor_s hr hv.2.1 ka kb hva hvb (Or.inr rfl)
  obtain ⟨W1, c1, vs1, k1, k2, k3, k4, k5⟩ := hres
  have hg := hN W1 L (c1 :: r) cx os hgx k1
  exact lv_ixor C.1.1 C.1.2.1 hd (z_go hg hgx C hp (hv.ext k2 k3 k4) k2 (hL.mono k2 List.prefix_rfl List.prefix_rfl) (sv := .int (xa ^^^ xb) :: sv2) ⟨k5, z_Sr.mono k2 List.prefix_rfl List.prefix_rfl hs2⟩ hx hf (by rw [k4]))
theorem z_s_ishl (hd : decode (q_b i) pc = .ok (.ishl, ln)) (hk : q_lnk i pc ln (.ishl) x y z) (hgx : z_gx cx) (hN : z_HN l base D sa g J ih d i (pc + ln) tl sp) (hr : z_step g q_code ih d i (q_code i) pc (.ishl) x y z tl V L st sp cx = some os) : z_Ok l base D sa g J d i pc V L st cx os := by
  have e1 : ln = 1 := hk
  subst e1
  have hr : z_bin st (fun a b r => z_oshl V a b (fun w c => ih d i (q_code i) tl w L (c :: r) sp cx)) = some os := hr
  obtain ⟨b, a, r, rfl, ka, kb, hr⟩ := z_bin_inv hr
  intro p e s m args below meth c Q w0 t0 vs0 H locs ls sv ws tys ts vs C hp hv hL hs hx hf
  obtain ⟨vb, sv1, rfl, hvb, hs1⟩ := hs.cons
  obtain ⟨va, sv2, rfl, hva, hs2⟩ := hs1.cons
  obtain ⟨_, xb, -, rfl, -⟩ := id (hvb.int kb)
  obtain ⟨_, xa, -, rfl, -⟩ := id (hva.int ka)
  have hres : z_Res sa (q_ad ws) ts V vs (fun w c => ih d i (q_code i) tl w L (c :: r) sp cx) os (.int (xa <<< (xb &&& 31))) := z_oshl_s hr hv.2.1 ka kb hva hvb
  obtain ⟨W1, c1, vs1, k1, k2, k3, k4, k5⟩ := hres
  have hg := hN W1 L (c1 :: r) cx os hgx k1
  exact lv_ishl C.1.1 C.1.2.1 hd (z_go hg hgx C hp (hv.ext k2 k3 k4) k2 (hL.mono k2 List.prefix_rfl List.prefix_rfl) (sv := .int (xa <<< (xb &&& 31)) :: sv2) ⟨k5, z_Sr.mono k2 List.prefix_rfl List.prefix_rfl hs2⟩ hx hf (by rw [k4]))
theorem z_s_ishr (hd : decode (q_b i) pc = .ok (.ishr, ln)) (hk : q_lnk i pc ln (.ishr) x y z) (hgx : z_gx cx) (hN : z_HN l base D sa g J ih d i (pc + ln) tl sp) (hr : z_step g q_code ih d i (q_code i) pc (.ishr) x y z tl V L st sp cx = some os) : z_Ok l base D sa g J d i pc V L st cx os := by
  have e1 : ln = 1 := hk
  subst e1
  have hr : z_bin st (fun a _ r => z_oshr V a (fun w c => ih d i (q_code i) tl w L (c :: r) sp cx)) = some os := hr
  obtain ⟨b, a, r, rfl, ka, kb, hr⟩ := z_bin_inv hr
  intro p e s m args below meth c Q w0 t0 vs0 H locs ls sv ws tys ts vs C hp hv hL hs hx hf
  obtain ⟨vb, sv1, rfl, hvb, hs1⟩ := hs.cons
  obtain ⟨va, sv2, rfl, hva, hs2⟩ := hs1.cons
  obtain ⟨_, xb, -, rfl, -⟩ := id (hvb.int kb)
  obtain ⟨_, xa, -, rfl, -⟩ := id (hva.int ka)
  have hres : z_Res sa (q_ad ws) ts V vs (fun w c => ih d i (q_code i) tl w L (c :: r) sp cx) os (.int (xa >>> (xb &&& 31))) := z_oshr_s hr hv.2.1 ka hva (fun h => z_qshr h)
  obtain ⟨W1, c1, vs1, k1, k2, k3, k4, k5⟩ := hres
  have hg := hN W1 L (c1 :: r) cx os hgx k1
  exact lv_ishr C.1.1 C.1.2.1 hd (z_go hg hgx C hp (hv.ext k2 k3 k4) k2 (hL.mono k2 List.prefix_rfl List.prefix_rfl) (sv := .int (xa >>> (xb &&& 31)) :: sv2) ⟨k5, z_Sr.mono k2 List.prefix_rfl List.prefix_rfl hs2⟩ hx hf (by rw [k4]))
theorem z_s_iushr (hd : decode (q_b i) pc = .ok (.iushr, ln)) (hk : q_lnk i pc ln (.iushr) x y z) (hgx : z_gx cx) (hN : z_HN l base D sa g J ih d i (pc + ln) tl sp) (hr : z_step g q_code ih d i (q_code i) pc (.iushr) x y z tl V L st sp cx = some os) : z_Ok l base D sa g J d i pc V L st cx os := by
  have e1 : ln = 1 := hk
  subst e1
  have hr : z_bin st (fun a _ r => z_oshr V a (fun w c => ih d i (q_code i) tl w L (c :: r) sp cx)) = some os := hr
  obtain ⟨b, a, r, rfl, ka, kb, hr⟩ := z_bin_inv hr
  intro p e s m args below meth c Q w0 t0 vs0 H locs ls sv ws tys ts vs C hp hv hL hs hx hf
  obtain ⟨vb, sv1, rfl, hvb, hs1⟩ := hs.cons
  obtain ⟨va, sv2, rfl, hva, hs2⟩ := hs1.cons
  obtain ⟨_, xb, -, rfl, -⟩ := id (hvb.int kb)
  obtain ⟨_, xa, -, rfl, -⟩ := id (hva.int ka)
  have hres : z_Res sa (q_ad ws) ts V vs (fun w c => ih d i (q_code i) tl w L (c :: r) sp cx) os (.int ((xa.toUInt32 >>> (xb.toUInt32 &&& Int32.toUInt32 31)).toInt32)) := z_oshr_s hr hv.2.1 ka hva (fun h => z_qushr h)
  obtain ⟨W1, c1, vs1, k1, k2, k3, k4, k5⟩ := hres
  have hg := hN W1 L (c1 :: r) cx os hgx k1
  exact lv_iushr C.1.1 C.1.2.1 hd rfl (z_go hg hgx C hp (hv.ext k2 k3 k4) k2 (hL.mono k2 List.prefix_rfl List.prefix_rfl) (sv := .int ((xa.toUInt32 >>> (xb.toUInt32 &&& Int32.toUInt32 31)).toInt32) :: sv2) ⟨k5, z_Sr.mono k2 List.prefix_rfl List.prefix_rfl hs2⟩ hx hf (by rw [k4]))
theorem z_s_idiv (hd : decode (q_b i) pc = .ok (.idiv, ln)) (hk : q_lnk i pc ln (.idiv) x y z) (hgx : z_gx cx) (hN : z_HN l base D sa g J ih d i (pc + ln) tl sp) (hr : z_step g q_code ih d i (q_code i) pc (.idiv) x y z tl V L st sp cx = some os) : z_Ok l base D sa g J d i pc V L st cx os := by
  have e1 : ln = 1 := hk
  subst e1
  have hr : z_bin st (fun a b r => z_odiv V a b (fun w c => ih d i (q_code i) tl w L (c :: r) sp cx)) = some os := hr
  obtain ⟨b, a, r, rfl, ka, kb, hr⟩ := z_bin_inv hr
  intro p e s m args below meth c Q w0 t0 vs0 H locs ls sv ws tys ts vs C hp hv hL hs hx hf
  obtain ⟨vb, sv1, rfl, hvb, hs1⟩ := hs.cons
  obtain ⟨va, sv2, rfl, hva, hs2⟩ := hs1.cons
  obtain ⟨_, xb, -, rfl, -⟩ := id (hvb.int kb)
  obtain ⟨_, xa, -, rfl, -⟩ := id (hva.int ka)
  have hres : ¬ xb = 0 ∧ z_Res sa (q_ad ws) ts V vs (fun w c => ih d i (q_code i) tl w L (c :: r) sp cx) os (.int (xa / xb)) := z_odiv_s hr hv.2.1 ka kb hva hvb
  obtain ⟨hne, hres⟩ := hres
  obtain ⟨W1, c1, vs1, k1, k2, k3, k4, k5⟩ := hres
  have hg := hN W1 L (c1 :: r) cx os hgx k1
  exact lv_idiv C.1.1 C.1.2.1 hd hne (z_go hg hgx C hp (hv.ext k2 k3 k4) k2 (hL.mono k2 List.prefix_rfl List.prefix_rfl) (sv := .int (xa / xb) :: sv2) ⟨k5, z_Sr.mono k2 List.prefix_rfl List.prefix_rfl hs2⟩ hx hf (by rw [k4]))
theorem z_s_irem (hd : decode (q_b i) pc = .ok (.irem, ln)) (hk : q_lnk i pc ln (.irem) x y z) (hgx : z_gx cx) (hN : z_HN l base D sa g J ih d i (pc + ln) tl sp) (hr : z_step g q_code ih d i (q_code i) pc (.irem) x y z tl V L st sp cx = some os) : z_Ok l base D sa g J d i pc V L st cx os := by
  have e1 : ln = 1 := hk
  subst e1
  have hr : z_bin st (fun a b r => z_orem V a b (fun w c => ih d i (q_code i) tl w L (c :: r) sp cx)) = some os := hr
  obtain ⟨b, a, r, rfl, ka, kb, hr⟩ := z_bin_inv hr
  intro p e s m args below meth c Q w0 t0 vs0 H locs ls sv ws tys ts vs C hp hv hL hs hx hf
  obtain ⟨vb, sv1, rfl, hvb, hs1⟩ := hs.cons
  obtain ⟨va, sv2, rfl, hva, hs2⟩ := hs1.cons
  obtain ⟨_, xb, -, rfl, -⟩ := id (hvb.int kb)
  obtain ⟨_, xa, -, rfl, -⟩ := id (hva.int ka)
  have hres : ¬ xb = 0 ∧ z_Res sa (q_ad ws) ts V vs (fun w c => ih d i (q_code i) tl w L (c :: r) sp cx) os (.int (xa - xa / xb * xb)) := z_orem_s hr hv.2.1 ka kb hva hvb
  obtain ⟨hne, hres⟩ := hres
  obtain ⟨W1, c1, vs1, k1, k2, k3, k4, k5⟩ := hres
  have hg := hN W1 L (c1 :: r) cx os hgx k1
  exact lv_irem C.1.1 C.1.2.1 hd hne (z_go hg hgx C hp (hv.ext k2 k3 k4) k2 (hL.mono k2 List.prefix_rfl List.prefix_rfl) (sv := .int (xa - xa / xb * xb) :: sv2) ⟨k5, z_Sr.mono k2 List.prefix_rfl List.prefix_rfl hs2⟩ hx hf (by rw [k4]))
theorem z_s_ineg (hd : decode (q_b i) pc = .ok (.ineg, ln)) (hk : q_lnk i pc ln (.ineg) x y z) (hgx : z_gx cx) (hN : z_HN l base D sa g J ih d i (pc + ln) tl sp) (hr : z_step g q_code ih d i (q_code i) pc (.ineg) x y z tl V L st sp cx = some os) : z_Ok l base D sa g J d i pc V L st cx os := by
  have e1 : ln = 1 := hk
  subst e1
  have hr : z_un st (fun a r => z_oneg V a (fun w c => ih d i (q_code i) tl w L (c :: r) sp cx)) = some os := hr
  obtain ⟨a, r, rfl, ka, hr⟩ := z_un_inv hr
  intro p e s m args below meth c Q w0 t0 vs0 H locs ls sv ws tys ts vs C hp hv hL hs hx hf
  obtain ⟨va, sv2, rfl, hva, hs2⟩ := hs.cons
  obtain ⟨_, xa, -, rfl, -⟩ := id (hva.int ka)
  have hres : z_Res sa (q_ad ws) ts V vs (fun w c => ih d i (q_code i) tl w L (c :: r) sp cx) os (.int (-xa)) := z_oneg_s hr hv.2.1 ka hva
  obtain ⟨W1, c1, vs1, k1, k2, k3, k4, k5⟩ := hres
  have hg := hN W1 L (c1 :: r) cx os hgx k1
  exact lv_ineg C.1.1 C.1.2.1 hd (z_go hg hgx C hp (hv.ext k2 k3 k4) k2 (hL.mono k2 List.prefix_rfl List.prefix_rfl) (sv := .int (-xa) :: sv2) ⟨k5, z_Sr.mono k2 List.prefix_rfl List.prefix_rfl hs2⟩ hx hf (by rw [k4]))
theorem z_s_i2b (hd : decode (q_b i) pc = .ok (.i2b, ln)) (hk : q_lnk i pc ln (.i2b) x y z) (hgx : z_gx cx) (hN : z_HN l base D sa g J ih d i (pc + ln) tl sp) (hr : z_step g q_code ih d i (q_code i) pc (.i2b) x y z tl V L st sp cx = some os) : z_Ok l base D sa g J d i pc V L st cx os := by
  have e1 : ln = 1 := hk
  subst e1
  have hr : z_un st (fun _ r => z_an V (fun w c => ih d i (q_code i) tl w L (c :: r) sp cx)) = some os := hr
  obtain ⟨a, r, rfl, ka, hr⟩ := z_un_inv hr
  intro p e s m args below meth c Q w0 t0 vs0 H locs ls sv ws tys ts vs C hp hv hL hs hx hf
  obtain ⟨va, sv2, rfl, hva, hs2⟩ := hs.cons
  obtain ⟨_, xa, -, rfl, -⟩ := id (hva.int ka)
  have hres : z_Res sa (q_ad ws) ts V vs (fun w c => ih d i (q_code i) tl w L (c :: r) sp cx) os (.int (xa.toInt8.toInt32)) := z_an_s hr hv.2.1
  obtain ⟨W1, c1, vs1, k1, k2, k3, k4, k5⟩ := hres
  have hg := hN W1 L (c1 :: r) cx os hgx k1
  exact lv_i2b C.1.1 C.1.2.1 hd rfl (z_go hg hgx C hp (hv.ext k2 k3 k4) k2 (hL.mono k2 List.prefix_rfl List.prefix_rfl) (sv := .int (xa.toInt8.toInt32) :: sv2) ⟨k5, z_Sr.mono k2 List.prefix_rfl List.prefix_rfl hs2⟩ hx hf (by rw [k4]))
theorem z_s_dup (hd : decode (q_b i) pc = .ok (.dup, ln)) (hk : q_lnk i pc ln (.dup) x y z) (hgx : z_gx cx) (hN : z_HN l base D sa g J ih d i (pc + ln) tl sp) (hr : z_step g q_code ih d i (q_code i) pc (.dup) x y z tl V L st sp cx = some os) : z_Ok l base D sa g J d i pc V L st cx os := by
  have e1 : ln = 1 := hk
  subst e1
  match st, hr with
  | [], hr => cases hr
  | a :: r, hr =>
    have hr : (bif Nat.beq a.1 3 then none else ih d i (q_code i) tl V L (a :: a :: r) sp cx) = some os := hr
    obtain ⟨h1, hr⟩ := q_bifn hr
    have hg := hN V L _ cx os hgx hr
    intro p e s m args below meth c Q w0 t0 vs0 H locs ls sv ws tys ts vs C hp hv hL hs hx hf
    obtain ⟨va, sv1, rfl, hva, hs1⟩ := hs.cons
    exact lv_dup C.1.1 C.1.2.1 hd (hva.cat1 (q_bneq.mp h1)) (z_go hg hgx C hp hv List.prefix_rfl hL (sv := va :: va :: sv1) ⟨hva, hva, hs1⟩ hx hf rfl)
theorem z_s_dup2 (hd : decode (q_b i) pc = .ok (.dup2, ln)) (hk : q_lnk i pc ln (.dup2) x y z) (hgx : z_gx cx) (hN : z_HN l base D sa g J ih d i (pc + ln) tl sp) (hr : z_step g q_code ih d i (q_code i) pc (.dup2) x y z tl V L st sp cx = some os) : z_Ok l base D sa g J d i pc V L st cx os := by
  have e1 : ln = 1 := hk
  subst e1
  match st, hr with
  | [], hr => cases hr
  | [_], hr => cases hr
  | b :: a :: r, hr =>
    have hr : (bif Nat.beq a.1 3 || Nat.beq b.1 3 then none else ih d i (q_code i) tl V L (b :: a :: b :: a :: r) sp cx) = some os := hr
    obtain ⟨h1, hr⟩ := q_bifn hr
    have h2 : Nat.beq a.1 3 = false ∧ Nat.beq b.1 3 = false := by
      cases ha : Nat.beq a.1 3 with
      | true => rw [ha] at h1; cases h1
      | false => rw [ha] at h1; exact ⟨rfl, h1⟩
    have hg := hN V L _ cx os hgx hr
    intro p e s m args below meth c Q w0 t0 vs0 H locs ls sv ws tys ts vs C hp hv hL hs hx hf
    obtain ⟨vb, sv1, rfl, hvb, hs1⟩ := hs.cons
    obtain ⟨va, sv2, rfl, hva, hs2⟩ := hs1.cons
    exact lv_dup2_11 C.1.1 C.1.2.1 hd (hvb.cat1 (q_bneq.mp h2.2)) (hva.cat1 (q_bneq.mp h2.1)) (z_go hg hgx C hp hv List.prefix_rfl hL (sv := vb :: va :: vb :: va :: sv2) ⟨hvb, hva, hvb, hva, hs2⟩ hx hf rfl)
theorem z_s_pop (hd : decode (q_b i) pc = .ok (.pop, ln)) (hk : q_lnk i pc ln (.pop) x y z) (hgx : z_gx cx) (hN : z_HN l base D sa g J ih d i (pc + ln) tl sp) (hr : z_step g q_code ih d i (q_code i) pc (.pop) x y z tl V L st sp cx = some os) : z_Ok l base D sa g J d i pc V L st cx os := by
  have e1 : ln = 1 := hk
  subst e1
  match st, hr with
  | [], hr => cases hr
  | a :: r, hr =>
    have hr : (bif Nat.beq a.1 3 then none else ih d i (q_code i) tl V L r sp cx) = some os := hr
    obtain ⟨h1, hr⟩ := q_bifn hr
    have hg := hN V L _ cx os hgx hr
    intro p e s m args below meth c Q w0 t0 vs0 H locs ls sv ws tys ts vs C hp hv hL hs hx hf
    obtain ⟨va, sv1, rfl, hva, hs1⟩ := hs.cons
    exact lv_pop C.1.1 C.1.2.1 hd (hva.cat1 (q_bneq.mp h1)) (z_go hg hgx C hp hv List.prefix_rfl hL (sv := sv1) hs1 hx hf rfl)
theorem z_s_goto {off : Int} (hd : decode (q_b i) pc = .ok (.goto off, ln)) (hk : q_lnk i pc ln (.goto off) x y z) (hgx : z_gx cx) (hN : z_HN l base D sa g J ih d i (pc + ln) tl sp) (hJ : z_HJ l base D sa g J ih d i sp) (hr : z_step g q_code ih d i (q_code i) pc (.goto off) x y z tl V L st sp cx = some os) : z_Ok l base D sa g J d i pc V L st cx os := by
  obtain ⟨e1, e2⟩ := hk
  subst e1
  have hg := hJ x V L st cx os hgx hr
  intro p e s m args below meth c Q w0 t0 vs0 H locs ls sv ws tys ts vs C hp hv hL hs hx hf
  exact lv_goto C.1.1 C.1.2.1 hd e2 (z_go hg hgx C hp hv List.prefix_rfl hL hs hx hf rfl)
end ZI
