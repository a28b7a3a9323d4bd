/-! ===== instruction by instruction: longs, switches ===== -/
theorem z_lkup : ∀ (l : List (Int × Int)) (df k : Int), Op.lookupswitch.offset l df k = df ∨ ∃ o ∈ l, o.1 = k ∧ Op.lookupswitch.offset l df k = o.2
  | [], df, k => Or.inl rfl
  | (a, o) :: r, df, k => by
    rw [Op.lookupswitch.offset_cons]
    by_cases h : a = k
    · rw [if_pos h]
      exact Or.inr ⟨(a, o), List.mem_cons_self, h, rfl⟩
    · rw [if_neg h]
      rcases z_lkup r df k with h2 | ⟨q, h2, h3, h4⟩
      · exact Or.inl h2
      · exact Or.inr ⟨q, List.mem_cons_of_mem _ h2, h3, h4⟩
theorem z_lcn {k : Nat} : (z_lcv k).toInt = (z_kl k : Int) := by
  have h : ∀ q ∈ z_lcs, (Int64.ofNat q).toInt = (q : Int) := by decide +kernel
  have e : z_kl k = z_lcs.getD k 0 := q_nth_eq z_lcs 0 k
  rw [e]
  show (Int64.ofNat (z_lcs.getD k 0)).toInt = _
  rw [List.getD_eq_getElem?_getD]
  cases hk : z_lcs[k]? with
  | none => decide
  | some q => exact h q (List.mem_of_getElem? hk)
theorem z_lg0 (x y : Int64) : lg_cmp x y = 0 ↔ x = y := by
  unfold lg_cmp
  by_cases h : x > y
  · rw [if_pos h]
    exact ⟨fun h2 => absurd h2 (by decide), fun h2 => absurd h (by rw [h2]; exact Int64.lt_irrefl)⟩
  · rw [if_neg h]
    by_cases h2 : x = y
    · rw [if_pos h2]
      exact ⟨fun _ => h2, fun _ => rfl⟩
    · rw [if_neg h2]
      exact ⟨fun h3 => absurd h3 (by decide), fun h3 => absurd h3 h2⟩
theorem z_lg1 (x y : Int64) : 2147483647 ≤ q_qb (lg_cmp x y) ∧ q_qb (lg_cmp x y) ≤ 2147483649 := by
  unfold lg_cmp
  repeat' split
  all_goals decide +kernel
theorem z_lgk (a b : Nat) : q_qb (lg_cmp (z_lcv a) (z_lcv b)) = if z_kl a = z_kl b then 2147483648 else if z_kl a < z_kl b then 2147483647 else 2147483649 := by
  have ha := z_lcn (k := a)
  have hb := z_lcn (k := b)
  unfold lg_cmp
  by_cases h1 : z_kl a = z_kl b
  · have e : z_lcv a = z_lcv b := Int64.toInt_inj.mp (by rw [ha, hb, h1])
    rw [if_pos h1, e, if_neg Int64.lt_irrefl, if_pos rfl]
    decide +kernel
  · have hne : ¬ z_lcv a = z_lcv b := fun e => h1 (by rw [e] at ha; omega)
    rw [if_neg h1]
    by_cases h2 : z_kl a < z_kl b
    · rw [if_pos h2, if_neg (fun h => by have := Int64.lt_iff_toInt_lt.mp h; omega), if_neg hne]
      decide +kernel
    · rw [if_neg h2, if_pos (show z_lcv a > z_lcv b from Int64.lt_iff_toInt_lt.mpr (by omega))]
      decide +kernel
/-- which constant a long is -/
theorem z_lk_s {sa : Nat → Nat} {ad ts : List Nat} {V : z_V} {vs : List Value} {c : z_C} {v : Value} (hE : z_E V vs) (h : z_v sa ad ts vs c v) (kc : c.1 = 3) : ∃ x, v = .long x ∧ (∀ k, z_lk V c = k + 1 → x = z_lcv k) ∧ (¬ c.2.1 = 0 → vs[c.2.1]? = some (.long x)) := by
  obtain ⟨x, rfl, h1 | ⟨h1, h2⟩⟩ := h.lng kc
  · refine ⟨x, rfl, fun k hk => ?_, fun h3 => absurd h1.1 h3⟩
    unfold z_lk at hk
    rw [q_ift _ _ (q_beq.mpr h1.1)] at hk
    have hk : c.2.2 + 1 = k + 1 := hk
    rw [h1.2, show c.2.2 = k by omega]
  · refine ⟨x, rfl, fun k hk => ?_, fun _ => h2⟩
    unfold z_lk at hk
    rw [q_iff _ _ (q_bneq.mpr h1)] at hk
    have h3 : q_get V.2.1 c.2.1 = 0 ∨ x = z_lcv (q_get V.2.1 c.2.1 - 1) := hE.2.2 _ _ h2
    rw [hk] at h3
    rcases h3 with h3 | h3
    · omega
    · exact h3
theorem z_lc_s {sa : Nat → Nat} {ad ts : List Nat} {V : z_V} {vs : List Value} {a b : z_C} {k : z_V → z_C → Option (List z_O)} {os : List z_O} {va vb : Value} (hr : z_lc V a b k = some os) (hE : z_E V vs) (hva : z_v sa ad ts vs a va) (hvb : z_v sa ad ts vs b vb) : ∃ xa xb, va = .long xa ∧ vb = .long xb ∧ z_Res sa ad ts V vs k os (.int (lg_cmp xa xb)) := by
  unfold z_lc at hr
  obtain ⟨h1, hr2⟩ := q_bifs hr
  clear hr
  obtain ⟨h2, h3⟩ := q_ands h1
  have ka := q_beq.mp h2
  have kb := q_beq.mp h3
  obtain ⟨xa, rfl, a1, a2⟩ := z_lk_s hE hva ka
  obtain ⟨xb, rfl, b1, b2⟩ := z_lk_s hE hvb kb
  refine ⟨xa, xb, rfl, rfl, ?_⟩
  have hany := z_lg1 xa xb
  cases eb : z_lk V b with
  | zero =>
    rw [eb] at hr2
    exact z_fi_s hr2 hE hany.1 hany.2
  | succ kb2 =>
    rw [eb] at hr2
    have hb := b1 kb2 eb
    cases ea : z_lk V a with
    | zero =>
      rw [ea] at hr2
      have hr2 : (bif Nat.beq a.2.1 0 then z_fi V 2147483647 2147483649 k else k V (2, a.2.1, kb2 + 1)) = some os := hr2
      cases h0 : Nat.beq a.2.1 0 with
      | true =>
        rw [q_ift _ _ h0] at hr2
        exact z_fi_s hr2 hE hany.1 hany.2
      | false =>
        rw [q_iff _ _ h0] at hr2
        refine ⟨V, _, vs, hr2, List.prefix_rfl, hE, rfl, Or.inr (Or.inr (Or.inl ⟨rfl, Or.inr ⟨kb2, xa, _, rfl, a2 (q_bneq.mp h0), rfl, ?_⟩⟩))⟩
        rw [z_lg0, hb]
    | succ ka2 =>
      rw [ea] at hr2
      have ha := a1 ka2 ea
      have hr2 : (bif Nat.beq (z_kl ka2) (z_kl kb2) then k V (0, 0, 2147483648) else bif Nat.blt (z_kl ka2) (z_kl kb2) then k V (0, 0, 2147483647) else k V (0, 0, 2147483649)) = some os := hr2
      have hq := z_lgk ka2 kb2
      rw [← ha, ← hb] at hq
      cases h0 : Nat.beq (z_kl ka2) (z_kl kb2) with
      | true =>
        rw [q_ift _ _ h0] at hr2
        rw [if_pos (q_beq.mp h0)] at hq
        exact ⟨V, _, vs, hr2, List.prefix_rfl, hE, rfl, by rw [← hq]; exact z_v.mkcon hE⟩
      | false =>
        rw [q_iff _ _ h0] at hr2
        rw [if_neg (q_bneq.mp h0)] at hq
        cases h5 : Nat.blt (z_kl ka2) (z_kl kb2) with
        | true =>
          rw [q_ift _ _ h5] at hr2
          rw [if_pos (q_blt.mp h5)] at hq
          exact ⟨V, _, vs, hr2, List.prefix_rfl, hE, rfl, by rw [← hq]; exact z_v.mkcon hE⟩
        | false =>
          rw [q_iff _ _ h5] at hr2
          rw [if_neg (fun z => by rw [q_blt.mpr z] at h5; cases h5)] at hq
          exact ⟨V, _, vs, hr2, List.prefix_rfl, hE, rfl, by rw [← hq]; exact z_v.mkcon hE⟩
section ZI
variable {l : Launch} {base : Nat} {D : va_G} {sa : Nat → Nat} {g : z_G} {J : va_W → List Nat → Prop} {ih : z_F} {d : Nat × Nat} {i pc ln x y z : Nat} {tl : List q_I} {V : z_V} {L st : List z_C} {sp : List Nat} {cx : List z_X} {os : List z_O}
theorem z_s_ldc2_w {n : Nat} (hd : decode (q_b i) pc = .ok (.ldc2_w n, ln)) (hk : z_lnk i pc ln (.ldc2_w n) x y z) (hgx : z_gx cx) (hN : z_HN l base D sa g J ih d i (pc + ln) tl sp) (hr : z_step g q_code ih d i (q_code i) pc (.ldc2_w n) x y z tl V L st sp cx = some os) : z_Ok l base D sa g J d i pc V L st cx os := by
  have hr : (bif Nat.beq z 99 then none else ih d i (q_code i) tl V L ((3, 0, x) :: st) sp cx) = some os := hr
  obtain ⟨hz, hr⟩ := q_bifn hr
  rcases hk with hk | ⟨e1, e3⟩
  · exact absurd hk (q_bneq.mp hz)
  subst e1
  have hg := hN V L _ cx os hgx hr
  intro p e s m args below meth c Q w0 t0 vs0 H locs ls sv ws tys ts vs C hp hv hL hs hx hf
  exact lv_ldc2 C.1.1 C.1.2.1 C.1.2.2.2.2.1 (C.1.2.2.2.2.2.1 _ e3) hd (z_go hg hgx C hp hv List.prefix_rfl hL (sv := .long (z_lcv x) :: sv) ⟨Or.inr (Or.inr (Or.inr (Or.inl ⟨rfl, Or.inl ⟨rfl, rfl⟩⟩))), hs⟩ hx hf rfl)
theorem z_s_lconst {n : Fin 2} (hd : decode (q_b i) pc = .ok (.lconst n, ln)) (hk : z_lnk i pc ln (.lconst n) x y z) (hgx : z_gx cx) (hN : z_HN l base D sa g J ih d i (pc + ln) tl sp) (hr : z_step g q_code ih d i (q_code i) pc (.lconst n) x y z tl V L st sp cx = some os) : z_Ok l base D sa g J d i pc V L st cx os := by
  obtain ⟨e1, e2⟩ := hk
  subst e1
  have hg := hN V L _ cx os hgx hr
  intro p e s m args below meth c Q w0 t0 vs0 H locs ls sv ws tys ts vs C hp hv hL hs hx hf
  exact lv_lconst C.1.1 C.1.2.1 hd e2 (z_go hg hgx C hp hv List.prefix_rfl hL (sv := .long (z_lcv x) :: sv) ⟨Or.inr (Or.inr (Or.inr (Or.inl ⟨rfl, Or.inl ⟨rfl, rfl⟩⟩))), hs⟩ hx hf rfl)
theorem z_s_lload_n {n : Fin 4} (hd : decode (q_b i) pc = .ok (.lload_n n, ln)) (hk : z_lnk i pc ln (.lload_n n) x y z) (hgx : z_gx cx) (hN : z_HN l base D sa g J ih d i (pc + ln) tl sp) (hr : z_step g q_code ih d i (q_code i) pc (.lload_n n) x y z tl V L st sp cx = some os) : z_Ok l base D sa g J d i pc V L st cx os := by
  obtain ⟨e1, e2⟩ := hk
  subst e1
  have hr : (bif Nat.beq (z_nth L x).1 3 then ih d i (q_code i) tl V L (z_nth L x :: st) sp cx else none) = some os := hr
  obtain ⟨h1, hr⟩ := q_bifs hr
  have h1 := q_beq.mp h1
  have hg := hN V L _ cx os hgx hr
  intro p e s m args below meth c Q w0 t0 vs0 H locs ls sv ws tys ts vs C hp hv hL hs hx hf
  obtain ⟨v, hv1, hv2⟩ := hL.get (k := x) (by omega)
  obtain ⟨xx, rfl, -⟩ := id (hv2.lng h1)
  exact lv_lload_n C.1.1 C.1.2.1 hd e2 hv1 (z_go hg hgx C hp hv List.prefix_rfl hL (sv := .long xx :: sv) ⟨hv2, hs⟩ hx hf rfl)
theorem z_s_lstore_n {n : Fin 4} (hd : decode (q_b i) pc = .ok (.lstore_n n, ln)) (hk : z_lnk i pc ln (.lstore_n n) x y z) (hgx : z_gx cx) (hN : z_HN l base D sa g J ih d i (pc + ln) tl sp) (hr : z_step g q_code ih d i (q_code i) pc (.lstore_n n) x y z tl V L st sp cx = some os) : z_Ok l base D sa g J d i pc V L st cx os := by
  obtain ⟨e1, e2, e3⟩ := hk
  subst e1
  match st, hr with
  | [], hr => cases hr
  | a :: r, hr =>
    have hr : (bif Nat.beq a.1 3 then ih d i (q_code i) tl V (z_st2 L x a) r sp cx else none) = some os := hr
    obtain ⟨h1, hr⟩ := q_bifs hr
    have ka := q_beq.mp h1
    have hg := hN V _ r cx os hgx hr
    intro p e s m args below meth c Q w0 t0 vs0 H locs ls sv ws tys ts vs C hp hv hL hs hx hf
    obtain ⟨va, sv1, rfl, hva, hs1⟩ := hs.cons
    obtain ⟨xa, rfl, -⟩ := id (hva.lng ka)
    obtain ⟨l1, lv, l2, l3⟩ := hL
    exact lv_lstore_n C.1.1 C.1.2.1 hd e2 l2 e3 rfl (fun ls2 hl2 => z_go hg hgx C hp hv List.prefix_rfl (z_Lr.store2 l1 l3 hva hl2) hs1 hx hf rfl)
theorem z_s_lmul (hd : decode (q_b i) pc = .ok (.lmul, ln)) (hk : z_lnk i pc ln (.lmul) x y z) (hgx : z_gx cx) (hN : z_HN l base D sa g J ih d i (pc + ln) tl sp) (hr : z_step g q_code ih d i (q_code i) pc (.lmul) x y z tl V L st sp cx = some os) : z_Ok l base D sa g J d i pc V L st cx os := by
  have e1 : ln = 1 := hk
  subst e1
  match st, hr with
  | [], hr => cases hr
  | [_], hr => cases hr
  | b :: a :: r, hr =>
    have hr : (bif Nat.beq a.1 3 && Nat.beq b.1 3 then z_ld V (3, 0, 0) (fun w c => ih d i (q_code i) tl w L (c :: r) sp cx) else none) = some os := hr
    obtain ⟨h1, hr⟩ := q_bifs hr
    have ka := q_beq.mp (q_ands h1).1
    have kb := q_beq.mp (q_ands h1).2
    intro p e s m args below meth c Q w0 t0 vs0 H locs ls sv ws tys ts vs C hp hv hL hs hx hf
    obtain ⟨vb, sv1, rfl, hvb, hs1⟩ := hs.cons
    obtain ⟨va, sv2, rfl, hva, hs2⟩ := hs1.cons
    obtain ⟨xb, rfl, -⟩ := id (hvb.lng kb)
    obtain ⟨xa, rfl, -⟩ := id (hva.lng ka)
    have hres : z_Res sa (q_ad ws) ts V vs (fun w c => ih d i (q_code i) tl w L (c :: r) sp cx) os (.long (xa * xb)) := z_lngs hr hv.2.1 _
    obtain ⟨W1, c1, vs1, k1, k2, k3, k4, k5⟩ := hres
    have hg := hN W1 L (c1 :: r) cx os hgx k1
    exact lv_lmul C.1.1 C.1.2.1 hd (z_go hg hgx C hp (hv.ext k2 k3 k4) k2 (hL.mono k2 List.prefix_rfl List.prefix_rfl) (sv := .long (xa * xb) :: sv2) ⟨k5, z_Sr.mono k2 List.prefix_rfl List.prefix_rfl hs2⟩ hx hf (by rw [k4]))
theorem z_s_ladd (hd : decode (q_b i) pc = .ok (.ladd, ln)) (hk : z_lnk i pc ln (.ladd) x y z) (hgx : z_gx cx) (hN : z_HN l base D sa g J ih d i (pc + ln) tl sp) (hr : z_step g q_code ih d i (q_code i) pc (.ladd) x y z tl V L st sp cx = some os) : z_Ok l base D sa g J d i pc V L st cx os := by
  have e1 : ln = 1 := hk
  subst e1
  match st, hr with
  | [], hr => cases hr
  | [_], hr => cases hr
  | b :: a :: r, hr =>
    have hr : (bif Nat.beq a.1 3 && Nat.beq b.1 3 then z_ld V (3, 0, 0) (fun w c => ih d i (q_code i) tl w L (c :: r) sp cx) else none) = some os := hr
    obtain ⟨h1, hr⟩ := q_bifs hr
    have ka := q_beq.mp (q_ands h1).1
    have kb := q_beq.mp (q_ands h1).2
    intro p e s m args below meth c Q w0 t0 vs0 H locs ls sv ws tys ts vs C hp hv hL hs hx hf
    obtain ⟨vb, sv1, rfl, hvb, hs1⟩ := hs.cons
    obtain ⟨va, sv2, rfl, hva, hs2⟩ := hs1.cons
    obtain ⟨xb, rfl, -⟩ := id (hvb.lng kb)
    obtain ⟨xa, rfl, -⟩ := id (hva.lng ka)
    have hres : z_Res sa (q_ad ws) ts V vs (fun w c => ih d i (q_code i) tl w L (c :: r) sp cx) os (.long (xa + xb)) := z_lngs hr hv.2.1 _
    obtain ⟨W1, c1, vs1, k1, k2, k3, k4, k5⟩ := hres
    have hg := hN W1 L (c1 :: r) cx os hgx k1
    exact lv_ladd C.1.1 C.1.2.1 hd (z_go hg hgx C hp (hv.ext k2 k3 k4) k2 (hL.mono k2 List.prefix_rfl List.prefix_rfl) (sv := .long (xa + xb) :: sv2) ⟨k5, z_Sr.mono k2 List.prefix_rfl List.prefix_rfl hs2⟩ hx hf (by rw [k4]))
theorem z_s_lor (hd : decode (q_b i) pc = .ok (.lor, ln)) (hk : z_lnk i pc ln (.lor) x y z) (hgx : z_gx cx) (hN : z_HN l base D sa g J ih d i (pc + ln) tl sp) (hr : z_step g q_code ih d i (q_code i) pc (.lor) x y z tl V L st sp cx = some os) : z_Ok l base D sa g J d i pc V L st cx os := by
  have e1 : ln = 1 := hk
  subst e1
  match st, hr with
  | [], hr => cases hr
  | [_], hr => cases hr
  | b :: a :: r, hr =>
    have hr : (bif Nat.beq a.1 3 && Nat.beq b.1 3 then z_ld V (3, 0, 0) (fun w c => ih d i (q_code i) tl w L (c :: r) sp cx) else none) = some os := hr
    obtain ⟨h1, hr⟩ := q_bifs hr
    have ka := q_beq.mp (q_ands h1).1
    have kb := q_beq.mp (q_ands h1).2
    intro p e s m args below meth c Q w0 t0 vs0 H locs ls sv ws tys ts vs C hp hv hL hs hx hf
    obtain ⟨vb, sv1, rfl, hvb, hs1⟩ := hs.cons
    obtain ⟨va, sv2, rfl, hva, hs2⟩ := hs1.cons
    obtain ⟨xb, rfl, -⟩ := id (hvb.lng kb)
    obtain ⟨xa, rfl, -⟩ := id (hva.lng ka)
    have hres : z_Res sa (q_ad ws) ts V vs (fun w c => ih d i (q_code i) tl w L (c :: r) sp cx) os (.long (xa ||| xb)) := z_lngs hr hv.2.1 _
    obtain ⟨W1, c1, vs1, k1, k2, k3, k4, k5⟩ := hres
    have hg := hN W1 L (c1 :: r) cx os hgx k1
    exact lv_lor C.1.1 C.1.2.1 hd (z_go hg hgx C hp (hv.ext k2 k3 k4) k2 (hL.mono k2 List.prefix_rfl List.prefix_rfl) (sv := .long (xa ||| xb) :: sv2) ⟨k5, z_Sr.mono k2 List.prefix_rfl List.prefix_rfl hs2⟩ hx hf (by rw [k4]))
theorem z_s_lshl (hd : decode (q_b i) pc = .ok (.lshl, ln)) (hk : z_lnk i pc ln (.lshl) x y z) (hgx : z_gx cx) (hN : z_HN l base D sa g J ih d i (pc + ln) tl sp) (hr : z_step g q_code ih d i (q_code i) pc (.lshl) x y z tl V L st sp cx = some os) : z_Ok l base D sa g J d i pc V L st cx os := by
  have e1 : ln = 1 := hk
  subst e1
  match st, hr with
  | [], hr => cases hr
  | [_], hr => cases hr
  | b :: a :: r, hr =>
    have hr : (bif Nat.beq a.1 3 && Nat.beq b.1 0 then z_ld V (3, 0, 0) (fun w c => ih d i (q_code i) tl w L (c :: r) sp cx) else none) = some os := hr
    obtain ⟨h1, hr⟩ := q_bifs hr
    have ka := q_beq.mp (q_ands h1).1
    have kb := q_beq.mp (q_ands h1).2
    intro p e s m args below meth c Q w0 t0 vs0 H locs ls sv ws tys ts vs C hp hv hL hs hx hf
    obtain ⟨vb, sv1, rfl, hvb, hs1⟩ := hs.cons
    obtain ⟨va, sv2, rfl, hva, hs2⟩ := hs1.cons
    obtain ⟨_, xb, -, rfl, -⟩ := id (hvb.int kb)
    obtain ⟨xa, rfl, -⟩ := id (hva.lng ka)
    have hres : z_Res sa (q_ad ws) ts V vs (fun w c => ih d i (q_code i) tl w L (c :: r) sp cx) os (.long (xa <<< (xb.toInt64 &&& 63))) := z_lngs hr hv.2.1 _
    obtain ⟨W1, c1, vs1, k1, k2, k3, k4, k5⟩ := hres
    have hg := hN W1 L (c1 :: r) cx os hgx k1
    exact lv_lshl C.1.1 C.1.2.1 hd rfl (z_go hg hgx C hp (hv.ext k2 k3 k4) k2 (hL.mono k2 List.prefix_rfl List.prefix_rfl) (sv := .long (xa <<< (xb.toInt64 &&& 63)) :: sv2) ⟨k5, z_Sr.mono k2 List.prefix_rfl List.prefix_rfl hs2⟩ hx hf (by rw [k4]))
theorem z_s_i2l (hd : decode (q_b i) pc = .ok (.i2l, ln)) (hk : z_lnk i pc ln (.i2l) x y z) (hgx : z_gx cx) (hN : z_HN l base D sa g J ih d i (pc + ln) tl sp) (hr : z_step g q_code ih d i (q_code i) pc (.i2l) x y z tl V L st sp cx = some os) : z_Ok l base D sa g J d i pc V L st cx os := by
  have e1 : ln = 1 := hk
  subst e1
  have hr : z_un st (fun _ r => z_ld V (3, 0, 0) (fun w c => ih d i (q_code i) tl w L (c :: r) sp cx)) = some os := hr
  obtain ⟨a, r, rfl, ka, hr⟩ := z_un_inv hr
  intro p e s m args below meth c Q w0 t0 vs0 H locs ls sv ws tys ts vs C hp hv hL hs hx hf
  obtain ⟨va, sv2, rfl, hva, hs2⟩ := hs.cons
  obtain ⟨_, xa, -, rfl, -⟩ := id (hva.int ka)
  have hres : z_Res sa (q_ad ws) ts V vs (fun w c => ih d i (q_code i) tl w L (c :: r) sp cx) os (.long (xa.toInt64)) := z_lngs hr hv.2.1 _
  obtain ⟨W1, c1, vs1, k1, k2, k3, k4, k5⟩ := hres
  have hg := hN W1 L (c1 :: r) cx os hgx k1
  exact lv_i2l C.1.1 C.1.2.1 hd rfl (z_go hg hgx C hp (hv.ext k2 k3 k4) k2 (hL.mono k2 List.prefix_rfl List.prefix_rfl) (sv := .long (xa.toInt64) :: sv2) ⟨k5, z_Sr.mono k2 List.prefix_rfl List.prefix_rfl hs2⟩ hx hf (by rw [k4]))
theorem z_s_i2c (hd : decode (q_b i) pc = .ok (.i2c, ln)) (hk : z_lnk i pc ln (.i2c) x y z) (hgx : z_gx cx) (hN : z_HN l base D sa g J ih d i (pc + ln) tl sp) (hr : z_step g q_code ih d i (q_code i) pc (.i2c) x y z tl V L st sp cx = some os) : z_Ok l base D sa g J d i pc V L st cx os := by
  have e1 : ln = 1 := hk
  subst e1
  have hr : z_un st (fun _ r => z_an V (fun w c => ih d i (q_code i) tl w L (c :: r) sp cx)) = some os := hr
  obtain ⟨a, r, rfl, ka, hr⟩ := z_un_inv hr
  intro p e s m args below meth c Q w0 t0 vs0 H locs ls sv ws tys ts vs C hp hv hL hs hx hf
  obtain ⟨va, sv2, rfl, hva, hs2⟩ := hs.cons
  obtain ⟨_, xa, -, rfl, -⟩ := id (hva.int ka)
  have hres : z_Res sa (q_ad ws) ts V vs (fun w c => ih d i (q_code i) tl w L (c :: r) sp cx) os (.int ((xa.toUInt32 % 65536).toInt32)) := z_an_s hr hv.2.1
  obtain ⟨W1, c1, vs1, k1, k2, k3, k4, k5⟩ := hres
  have hg := hN W1 L (c1 :: r) cx os hgx k1
  exact lv_i2c C.1.1 C.1.2.1 hd rfl (z_go hg hgx C hp (hv.ext k2 k3 k4) k2 (hL.mono k2 List.prefix_rfl List.prefix_rfl) (sv := .int ((xa.toUInt32 % 65536).toInt32) :: sv2) ⟨k5, z_Sr.mono k2 List.prefix_rfl List.prefix_rfl hs2⟩ hx hf (by rw [k4]))
theorem z_s_lcmp (hd : decode (q_b i) pc = .ok (.lcmp, ln)) (hk : z_lnk i pc ln (.lcmp) x y z) (hgx : z_gx cx) (hN : z_HN l base D sa g J ih d i (pc + ln) tl sp) (hr : z_step g q_code ih d i (q_code i) pc (.lcmp) x y z tl V L st sp cx = some os) : z_Ok l base D sa g J d i pc V L st cx os := by
  have e1 : ln = 1 := hk
  subst e1
  match st, hr with
  | [], hr => cases hr
  | [_], hr => cases hr
  | b :: a :: r, hr =>
    have hr : z_lc V a b (fun w c => ih d i (q_code i) tl w L (c :: r) sp cx) = some os := hr
    intro p e s m args below meth c Q w0 t0 vs0 H locs ls sv ws tys ts vs C hp hv hL hs hx hf
    obtain ⟨vb, sv1, rfl, hvb, hs1⟩ := hs.cons
    obtain ⟨va, sv2, rfl, hva, hs2⟩ := hs1.cons
    obtain ⟨xa, xb, rfl, rfl, hres⟩ := z_lc_s hr hv.2.1 hva hvb
    obtain ⟨W1, c1, vs1, k1, k2, k3, k4, k5⟩ := hres
    have hg := hN W1 L (c1 :: r) cx os hgx k1
    exact W.lcmp C.1.1 C.1.2.1 hd (z_go hg hgx C hp (hv.ext k2 k3 k4) k2 (hL.mono k2 List.prefix_rfl List.prefix_rfl) (sv := .int (lg_cmp xa xb) :: sv2) ⟨k5, z_Sr.mono k2 List.prefix_rfl List.prefix_rfl hs2⟩ hx hf (by rw [k4]))
theorem z_one {a : z_C} {V1 : z_V} {vs : List Value} {ad ts : List Nat} {xa : Int32} {n : Nat} (hE : z_E V1 vs) (ka : a.1 = 0) (hva : z_v sa ad ts vs a (.int xa)) (hn : q_qb xa = n) : (Nat.ble (z_il V1 a) n && Nat.ble n (z_ih V1 a)) = true ∧ ∃ W1 ∈ z_opl (z_rf V1 a n n), z_E W1 vs ∧ W1.2.2.2 = V1.2.2.2 := by
  obtain ⟨x2, ex, ax, bx⟩ := hva.bnd hE ka
  cases ex
  obtain ⟨W1, w1, w2, w3, w4⟩ := z_rf_s hE ka hva (show n ≤ q_qb xa by omega) (show q_qb xa ≤ n by omega)
  refine ⟨by rw [q_ble.mpr (show z_il V1 a ≤ n by omega), q_ble.mpr (show n ≤ z_ih V1 a by omega)]; rfl, W1, ?_, w2, w4⟩
  rw [w1]
  exact List.mem_singleton.mpr rfl
theorem z_tsw_inv {a : z_C} {r : List z_C} (offs : List Int) : ∀ {k0 : Nat} {os : List z_O}, z_tsw V ih d i (q_code i) L r sp cx pc a offs k0 = some os → ∀ (j : Nat) (o : Int), offs[j]? = some o → (Nat.ble (z_il V a) (Nat.add 2147483648 (k0 + j)) && Nat.ble (Nat.add 2147483648 (k0 + j)) (z_ih V a)) = true → ∀ W1 ∈ z_opl (z_rf V a (Nat.add 2147483648 (k0 + j)) (Nat.add 2147483648 (k0 + j))), ∃ q, ih d i (q_code i) (q_jm (q_code i) (Int.toNat (Int.add (Int.ofNat pc) o))) W1 L r sp cx = some q ∧ ∀ w ∈ q, w ∈ os := by
  induction offs with
  | nil => intro k0 os _ j o hj; simp at hj
  | cons o0 t ihh =>
    intro k0 os h j o hj hb W1 hW
    have h : z_app (bif Nat.ble (z_il V a) (Nat.add 2147483648 k0) && Nat.ble (Nat.add 2147483648 k0) (z_ih V a) then z_fold (z_opl (z_rf V a (Nat.add 2147483648 k0) (Nat.add 2147483648 k0))) (fun w => ih d i (q_code i) (q_jm (q_code i) (Int.toNat (Int.add (Int.ofNat pc) o0))) w L r sp cx) else some []) (z_tsw V ih d i (q_code i) L r sp cx pc a t (Nat.succ k0)) = some os := h
    obtain ⟨o1, o2, h1, h2, rfl⟩ := z_app_inv h
    cases j with
    | zero =>
      have e : o0 = o := by simpa using hj
      subst e
      have e0 : k0 + 0 = k0 := Nat.add_zero k0
      rw [e0] at hb hW
      rw [q_ift _ _ hb] at h1
      obtain ⟨q, q1, q2⟩ := z_fold_inv h1 W1 hW
      exact ⟨q, q1, fun w hw => List.mem_append_left _ (q2 w hw)⟩
    | succ j =>
      have e0 : k0 + (j + 1) = Nat.succ k0 + j := by omega
      rw [e0] at hb hW
      obtain ⟨q, q1, q2⟩ := ihh h2 j o (by simpa using hj) hb W1 hW
      exact ⟨q, q1, fun w hw => List.mem_append_right _ (q2 w hw)⟩
theorem z_lsw_inv {a : z_C} {r : List z_C} (ps : List (Int × Int)) : ∀ {os : List z_O}, z_lsw V ih d i (q_code i) L r sp cx pc a ps = some os → ∀ o ∈ ps, (Nat.ble (z_il V a) (Nat.add 2147483648 (Int.toNat o.1)) && Nat.ble (Nat.add 2147483648 (Int.toNat o.1)) (z_ih V a)) = true → ∀ W1 ∈ z_opl (z_rf V a (Nat.add 2147483648 (Int.toNat o.1)) (Nat.add 2147483648 (Int.toNat o.1))), ∃ q, ih d i (q_code i) (q_jm (q_code i) (Int.toNat (Int.add (Int.ofNat pc) o.2))) W1 L r sp cx = some q ∧ ∀ w ∈ q, w ∈ os := by
  induction ps with
  | nil => intro os _ o ho; cases ho
  | cons o0 t ihh =>
    intro os h o ho hb W1 hW
    have h : z_app (bif Nat.ble (z_il V a) (Nat.add 2147483648 (Int.toNat o0.1)) && Nat.ble (Nat.add 2147483648 (Int.toNat o0.1)) (z_ih V a) then z_fold (z_opl (z_rf V a (Nat.add 2147483648 (Int.toNat o0.1)) (Nat.add 2147483648 (Int.toNat o0.1)))) (fun w => ih d i (q_code i) (q_jm (q_code i) (Int.toNat (Int.add (Int.ofNat pc) o0.2))) w L r sp cx) else some []) (z_lsw V ih d i (q_code i) L r sp cx pc a t) = some os := h
    obtain ⟨o1, o2, h1, h2, rfl⟩ := z_app_inv h
    rcases List.mem_cons.mp ho with rfl | ho
    · rw [q_ift _ _ hb] at h1
      obtain ⟨q, q1, q2⟩ := z_fold_inv h1 W1 hW
      exact ⟨q, q1, fun w hw => List.mem_append_left _ (q2 w hw)⟩
    · obtain ⟨q, q1, q2⟩ := ihh h2 o ho hb W1 hW
      exact ⟨q, q1, fun w hw => List.mem_append_right _ (q2 w hw)⟩
theorem z_s_table {df lo hi : Int} {offs : Array Int} (hd : decode (q_b i) pc = .ok (.tableswitch df lo hi offs, ln)) (hk : q_lnk i pc ln (.tableswitch df lo hi offs) x y z) (hgx : z_gx cx) (hN : z_HN l base D sa g J ih d i (pc + ln) tl sp) (hJ : z_HJ l base D sa g J ih d i sp) (hr : z_step g q_code ih d i (q_code i) pc (.tableswitch df lo hi offs) x y z tl V L st sp cx = some os) : z_Ok l base D sa g J d i pc V L st cx os := by
  obtain ⟨e1, e2, e3, e4, e5⟩ := hk
  have hr : z_un st (fun a r => z_app (z_tsw V ih d i (q_code i) L r sp cx pc a offs.toList x) (bif Nat.blt (z_il V a) (Nat.add 2147483648 x) || Nat.blt (Nat.add 2147483648 y) (z_ih V a) then ih d i (q_code i) (q_jm (q_code i) (Int.toNat (Int.add (Int.ofNat pc) df))) V L r sp cx else some [])) = some os := hr
  obtain ⟨a, r, rfl, ka, hr⟩ := z_un_inv hr
  obtain ⟨o1, o2, h1, h2, rfl⟩ := z_app_inv hr
  intro p e s m args below meth c Q w0 t0 vs0 H locs ls sv ws tys ts vs C hp hv hL hs hx hf
  obtain ⟨va, sv1, rfl, hva, hs1⟩ := hs.cons
  obtain ⟨_, xa, -, rfl, -⟩ := id (hva.int ka)
  have eq := z_qi xa
  by_cases hin : xa.toInt < lo ∨ hi < xa.toInt
  · obtain ⟨x2, ex, ax, bx⟩ := hva.bnd hv.2.1 ka
    cases ex
    have hb : (Nat.blt (z_il V a) (Nat.add 2147483648 x) || Nat.blt (Nat.add 2147483648 y) (z_ih V a)) = true := by
      rw [Nat.add_eq, Nat.add_eq]
      rcases hin with h | h
      · rw [q_blt.mpr (show z_il V a < 2147483648 + x by omega)]; rfl
      · rw [q_blt.mpr (show 2147483648 + y < z_ih V a by omega)]; cases Nat.blt (z_il V a) (2147483648 + x) <;> rfl
    rw [q_ift _ _ hb] at h2
    exact lv_tableOut (tgt := ((pc : Int) + df).toNat) C.1.1 C.1.2.1 hd hin (Int.toNat_of_nonneg e4).symm (z_go (hJ _ V L r cx o2 hgx h2) hgx C hp hv List.prefix_rfl hL hs1 hx (fun o ho => hf o (List.mem_append_right _ ho)) rfl)
  · have hlo : lo ≤ xa.toInt := by omega
    have hhi : xa.toInt ≤ hi := by omega
    obtain ⟨o, ho, hpos⟩ := e5 (xa.toInt - lo).toNat (by omega)
    obtain ⟨u1, W1, u2, u3, u4⟩ := z_one (n := Nat.add 2147483648 (x + (xa.toInt - lo).toNat)) hv.2.1 ka hva (by rw [Nat.add_eq]; omega)
    obtain ⟨q, q1, q2⟩ := z_tsw_inv _ h1 (xa.toInt - lo).toNat o (by rw [Array.getElem?_toList]; exact ho) u1 W1 u2
    exact lv_tableIn (off := o) (tgt := ((pc : Int) + o).toNat) C.1.1 C.1.2.1 hd (by omega) (by omega) ho (Int.toNat_of_nonneg hpos).symm (z_go (hJ _ W1 L r cx q hgx q1) hgx C hp (hv.ext List.prefix_rfl u3 u4) List.prefix_rfl hL hs1 hx (fun w hw => hf w (List.mem_append_left _ (q2 w hw))) (by rw [u4]))
theorem z_s_lookup {df : Int} {ps : Array (Int × Int)} (hd : decode (q_b i) pc = .ok (.lookupswitch df ps, ln)) (hk : z_lnk i pc ln (.lookupswitch df ps) x y z) (hgx : z_gx cx) (hN : z_HN l base D sa g J ih d i (pc + ln) tl sp) (hJ : z_HJ l base D sa g J ih d i sp) (hr : z_step g q_code ih d i (q_code i) pc (.lookupswitch df ps) x y z tl V L st sp cx = some os) : z_Ok l base D sa g J d i pc V L st cx os := by
  obtain ⟨e1, e4, e5⟩ := hk
  have hr : z_un st (fun a r => z_app (z_lsw V ih d i (q_code i) L r sp cx pc a ps.toList) (ih d i (q_code i) (q_jm (q_code i) (Int.toNat (Int.add (Int.ofNat pc) df))) V L r sp cx)) = some os := hr
  obtain ⟨a, r, rfl, ka, hr⟩ := z_un_inv hr
  obtain ⟨o1, o2, h1, h2, rfl⟩ := z_app_inv hr
  intro p e s m args below meth c Q w0 t0 vs0 H locs ls sv ws tys ts vs C hp hv hL hs hx hf
  obtain ⟨va, sv1, rfl, hva, hs1⟩ := hs.cons
  obtain ⟨_, xa, -, rfl, -⟩ := id (hva.int ka)
  have eq := z_qi xa
  rcases z_lkup ps.toList df xa.toInt with ho | ⟨o, ho, ho2, ho3⟩
  · exact lv_lookup (off := df) (tgt := ((pc : Int) + df).toNat) C.1.1 C.1.2.1 hd e1 ho (Int.toNat_of_nonneg e4).symm (z_go (hJ _ V L r cx o2 hgx h2) hgx C hp hv List.prefix_rfl hL hs1 hx (fun o ho => hf o (List.mem_append_right _ ho)) rfl)
  · obtain ⟨p1, p2, p3⟩ := e5 o ho
    obtain ⟨u1, W1, u2, u3, u4⟩ := z_one (n := Nat.add 2147483648 (Int.toNat o.1)) hv.2.1 ka hva (by rw [Nat.add_eq]; omega)
    obtain ⟨q, q1, q2⟩ := z_lsw_inv _ h1 o ho u1 W1 u2
    exact lv_lookup (off := o.2) (tgt := ((pc : Int) + o.2).toNat) C.1.1 C.1.2.1 hd e1 ho3 (Int.toNat_of_nonneg p3).symm (z_go (hJ _ W1 L r cx q hgx q1) hgx C hp (hv.ext List.prefix_rfl u3 u4) List.prefix_rfl hL hs1 hx (fun w hw => hf w (List.mem_append_left _ (q2 w hw))) (by rw [u4]))
end ZI
