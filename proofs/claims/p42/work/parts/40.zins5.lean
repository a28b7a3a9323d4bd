/-! ===== instruction by instruction: writes of the heap ===== -/
/-- a code that fits a type has a value of it -/
theorem z_fit_s {sa : Nat → Nat} {ad ts : List Nat} {V : z_V} {vs : List Value} {t c : z_C} {v : Value} (h : z_fit V t c = true) (hE : z_E V vs) (hv : z_v sa ad ts vs c v) : z_tv ad ts t v := by
  unfold z_fit at h
  cases b0 : Nat.beq t.1 0 with
  | true =>
    rw [q_ift _ _ b0] at h
    obtain ⟨h1, h2⟩ := q_ands h
    obtain ⟨h2, h3⟩ := q_ands h2
    have h2 := q_ble.mp h2
    have h3 := q_ble.mp h3
    obtain ⟨y, rfl, g1, g2⟩ := hv.bnd hE (q_beq.mp h1)
    exact Or.inl ⟨q_beq.mp b0, y, rfl, by omega, by omega⟩
  | false =>
    rw [q_iff _ _ b0] at h
    cases b1 : Nat.beq t.1 1 with
    | true =>
      rw [q_ift _ _ b1] at h
      obtain ⟨h1, h2⟩ := q_ands h
      obtain ⟨a, j, rfl, g1, g2, g3⟩ := hv.nonnull hE h1
      exact Or.inr (Or.inl ⟨q_beq.mp b1, j, a, rfl, g2, by rw [← q_beq.mp h2]; exact g3⟩)
    | false =>
      rw [q_iff _ _ b1] at h
      cases b2 : Nat.beq t.1 2 with
      | true =>
        rw [q_ift _ _ b2] at h
        refine Or.inr (Or.inr (Or.inl ⟨q_beq.mp b2, ?_⟩))
        rcases q_ors h with h | h
        · obtain ⟨h1, h2⟩ := q_ands h
          rcases (hv.ref (q_beq.mp h1)).2 with g | g
          · exact Or.inl g
          · rw [q_beq.mp h2] at g
            exact Or.inr g
        · obtain ⟨h1, h2⟩ := q_ands h
          have h2 := q_beq.mp h2
          rcases hv.two (q_beq.mp h1) with ⟨_, g⟩ | ⟨k, _, _, g, _⟩
          · exact Or.inl g
          · omega
      | false =>
        rw [q_iff _ _ b2] at h
        obtain ⟨b3, h⟩ : Nat.beq t.1 3 = true ∧ Nat.beq c.1 3 = true := by
          cases b3 : Nat.beq t.1 3 with
          | true => rw [q_ift _ _ b3] at h; exact ⟨rfl, h⟩
          | false => rw [q_iff _ _ b3] at h; cases h
        obtain ⟨x, rfl, _⟩ := hv.lng (q_beq.mp h)
        exact Or.inr (Or.inr (Or.inr ⟨q_beq.mp b3, x, rfl⟩))
theorem z_il_le {sa : Nat → Nat} {ad ts : List Nat} {V : z_V} {vs : List Value} {c : z_C} {y : Int32} (hE : z_E V vs) (hv : z_v sa ad ts vs c (.int y)) (kc : c.1 = 0) : z_il V c ≤ q_qb y ∧ q_qb y ≤ z_ih V c := by
  obtain ⟨y2, e, g1, g2⟩ := hv.bnd hE kc
  cases e
  exact ⟨g1, g2⟩
/-- one place of one cell is written: facts that stay -/
theorem z_keep {sa : Nat → Nat} {base : Nat} {V : z_V} {ws : va_W} {ts : List Nat} {vs : List Value} {F : List z_A} (hE : z_E V vs) (hF : z_Fs sa ws ts vs F) {j q n t lo hi : Nat} {e e' : va_E} {ic c : z_C} {xi : Int32} {w : Value} (hD : va_D (q_A base) ws) (he : ws[j]? = some (q, e)) (ht : ts[j]? = some t) (hic : z_v sa (q_ad ws) ts vs ic (.int xi)) (kic : ic.1 = 0) (hxi : q_qb xi = 2147483648 + n) (hlo : lo ≤ 2147483648 + n) (hhi : 2147483648 + n ≤ hi) (hs : ∀ k v, ¬ k = n → z_at e k = some v → z_at e' k = some v) (hn : ∀ v, z_at e n = some v → z_at e' n = some w) (hw : z_v sa (q_ad ws) ts vs c w ∨ c.1 = 8) : z_Fs sa (ws.set j (q, e')) ts vs (z_flt (z_kp V t ic lo hi c) F) := by
  intro f hf
  obtain ⟨hf, hk⟩ := z_flt_mem.mp hf
  obtain ⟨a, j2, k, e2, y, v, g1, g2, g3, g4, g5, g6, g7, g8⟩ := hF f hf
  unfold z_f1
  rw [q_ad_set ws j q e e' he]
  by_cases ej : j = j2
  · subst ej
    rw [he] at g2
    cases g2
    have et : f.2.1 = t := Option.some.inj (g3.symm.trans ht)
    have hset : (ws.set j (q, e'))[j]? = some (q, e') := by rw [List.getElem?_set_self (List.getElem?_eq_some_iff.mp he).1]
    by_cases ek : k = n
    · subst ek
      unfold z_kp at hk
      rw [q_ift _ _ (q_beq.mpr et)] at hk
      have hb := z_il_le hE g4 g5
      rcases q_ors hk with hk | hk
      · have ec := z_ceq_eq hk
        rcases hw with hw | hw
        · exact ⟨q, j, k, e', y, w, g1, hset, g3, g4, g5, g6, hn v g7, by rw [ec]; exact hw⟩
        · rw [ec] at g8
          rcases g8 with ⟨h, _⟩ | ⟨h, _⟩ | ⟨h, _⟩ | ⟨h, _⟩ | ⟨h, _⟩ <;> omega
      · rcases q_ors hk with hk | hk
        · obtain ⟨h1, h2⟩ := q_ands hk
          have h1 := q_beq.mp h1
          have := z_off g4 hic g5 kic h1
          have h3 : Nat.beq f.2.2.1.2.2 ic.2.2 = true := q_beq.mpr (by omega)
          rw [h3] at h2
          cases h2
        · rcases q_ors hk with hk | hk
          · have := q_blt.mp hk
            omega
          · have := q_blt.mp hk
            omega
    · exact ⟨q, j, k, e', y, v, g1, hset, g3, g4, g5, g6, hs k v ek g7, g8⟩
  · exact ⟨a, j2, k, e2, y, v, g1, by rw [List.getElem?_set_ne ej]; exact g2, g3, g4, g5, g6, g7, g8⟩
/-- writes in ranges: facts that stay -/
theorem z_keeps {sa : Nat → Nat} {V : z_V} {ws ws' : va_W} {ts ts' : List Nat} {vs : List Value} {F F' : List z_A} {ks : List z_C} (hE : z_E V vs) (hF : z_Fs sa ws ts vs F) (hfr : z_Fr ks ws ts ws' ts') (hF' : ∀ f ∈ F', f ∈ F ∧ ∀ k ∈ ks, z_kq V k f = true) : z_Fs sa ws' ts' vs F' := by
  intro f hf
  obtain ⟨hf1, hf2⟩ := hF' f hf
  obtain ⟨a, j, k, e, y, v, g1, g2, g3, g4, g5, g6, g7, g8⟩ := hF f hf1
  have hb := z_il_le hE g4 g5
  obtain ⟨e', u1, u2⟩ := hfr.2.2 j a _ k e v g2 g3 g7 (fun hw => by
    obtain ⟨e3, h1, h2, h3, h4⟩ := z_kw_iff.mp hw
    have h5 := hf2 e3 h1
    unfold z_kq at h5
    rw [q_ift _ _ (q_beq.mpr h2.symm)] at h5
    rcases q_ors h5 with h5 | h5
    · have := q_blt.mp h5
      omega
    · have := q_blt.mp h5
      omega)
  exact ⟨a, j, k, e', y, v, g1, u1, z_gm hfr.1 g3, g4.mono List.prefix_rfl hfr.2.1 hfr.1, g5, g6, u2, g8.mono List.prefix_rfl hfr.2.1 hfr.1⟩
theorem z_leq_eq : ∀ {a b : List z_C}, z_leq a b = true → a = b
  | [], [], _ => rfl
  | [], _ :: _, h => by cases h
  | _ :: _, [], h => by cases h
  | x :: a, y :: b, h => by
    have h : (z_ceq x y && z_leq a b) = true := h
    rw [z_ceq_eq (q_ands h).1, z_leq_eq (q_ands h).2]
theorem z_modeq {n k a b p : Nat} (h : n + a = k + b) (hm : a % p = b % p) : n % p = k % p := by
  have e1 := Nat.div_add_mod a p
  have e2 := Nat.div_add_mod b p
  have e3 : n + p * (a / p) = k + p * (b / p) := by omega
  rw [← Nat.add_mul_mod_self_left n p (a / p), e3, Nat.add_mul_mod_self_left]
/-- a value that may be stored lies in the bounds of its place -/
theorem z_sto_s {sa : Nat → Nat} {tt : Nat → z_T} {ad ts : List Nat} {V : z_V} {vs : List Value} {T : z_T} {ic c : z_C} {lo hi n : Nat} {xi xv : Int32} (h : z_sto tt V T ic lo hi c = true) (hE : z_E V vs) (hD : z_Ds sa tt ad ts vs V.2.2.2.2.1) (hic : z_v sa ad ts vs ic (.int xi)) (kic : ic.1 = 0) (hxi : q_qb xi = 2147483648 + n) (hlo : lo ≤ 2147483648 + n) (hhi : 2147483648 + n ≤ hi) (hc : z_v sa ad ts vs c (.int xv)) (kc : c.1 = 0) : (z_el T.2.2.1 (n % T.2.2.2.1)).1 ≤ q_qb xv ∧ q_qb xv ≤ (z_el T.2.2.1 (n % T.2.2.2.1)).2 := by
  unfold z_sto at h
  obtain ⟨x1, y1, e1, e2, e3⟩ := z_rng_s (per := T.2.2.2.1) (a := Nat.sub lo 2147483648) (b := Nat.sub hi 2147483648) (j := n) (k := fun x y => (fun r : Nat × Nat => Nat.ble r.1 (z_il V c) && Nat.ble (z_ih V c) r.2) (z_na T.2.2.1 x y)) (by rw [Nat.sub_eq]; omega) (by rw [Nat.sub_eq]; omega)
  rw [e1] at h
  have hb := z_il_le hE hc kc
  have hna := z_na_s T.2.2.1 x1 y1 (n % T.2.2.2.1) e2 e3
  have h : (bif (Nat.ble (z_na T.2.2.1 x1 y1).1 (z_il V c) && Nat.ble (z_ih V c) (z_na T.2.2.1 x1 y1).2) then true else Nat.beq c.2.2 2147483648 && z_any (fun d : z_B => Nat.beq d.1 c.2.1 && (Nat.beq d.2.2.2.1 ic.2.1 && (Nat.beq (Nat.mod d.2.2.2.2 T.2.2.2.1) (Nat.mod ic.2.2 T.2.2.2.1) && (z_leq (tt d.2.1).2.2.1 T.2.2.1 && Nat.beq (tt d.2.1).2.2.2.1 T.2.2.2.1)))) V.2.2.2.2.1) = true := h
  cases h1 : (Nat.ble (z_na T.2.2.1 x1 y1).1 (z_il V c) && Nat.ble (z_ih V c) (z_na T.2.2.1 x1 y1).2) with
  | true =>
    have g1 := q_ble.mp (q_ands h1).1
    have g2 := q_ble.mp (q_ands h1).2
    omega
  | false =>
    rw [q_iff _ _ h1] at h
    obtain ⟨g1, g2⟩ := q_ands h
    have g1 := q_beq.mp g1
    obtain ⟨b, b1, b2⟩ := z_any_iff.mp g2
    obtain ⟨b3, b2⟩ := q_ands b2
    obtain ⟨b4, b2⟩ := q_ands b2
    obtain ⟨b5, b2⟩ := q_ands b2
    obtain ⟨b6, b7⟩ := q_ands b2
    have b3 := q_beq.mp b3
    have b4 := q_beq.mp b4
    have b5 : b.2.2.2.2 % T.2.2.2.1 = ic.2.2 % T.2.2.2.1 := q_beq.mp b5
    have b6 := z_leq_eq b6
    have b7 := q_beq.mp b7
    obtain ⟨x0, y0, k0, d1, d2, d3, d4, d5, d6⟩ := hD b b1
    obtain ⟨xx, yy, f1, f2, f3⟩ := hc.int kc
    cases f2
    rw [b3, f1] at d1
    cases d1
    have ex : x0 = xv := (q_eq_iff x0 xv).mpr (by omega)
    subst ex
    have ho := z_off d2 hic d3 kic b4
    have hm : n % T.2.2.2.1 = k0 % T.2.2.2.1 := z_modeq (show n + b.2.2.2.2 = k0 + ic.2.2 by omega) b5
    rw [b6, b7] at d5 d6
    rw [hm]
    exact ⟨d5, d6⟩
/-- the world behind a write -/
theorem z_Hp.set {base : Nat} {D : va_G} {tt : Nat → z_T} {kw : List z_C} {s : State} {w0 : va_W} {t0 : List Nat} {H H1 : Heap} {locs locs1 : List Loc} {ws : va_W} {tys : List (ClassId × FieldType)} {ts : List Nat} (hp : z_Hp base D tt kw s w0 t0 H locs ws tys ts) {j a t : Nat} {e e' : va_E} (he : ws[j]? = some (a, e)) (ht : ts[j]? = some t) (hc : z_cell (q_ad ws) ts tys (tt t) e') (hs : ∀ k v, z_at e k = some v → ¬ z_wr kw t k → z_at e' k = some v) (hP1 : va_P D q_cls (ws.set j (a, e')) H1) (hD1 : va_D (q_A base) (ws.set j (a, e'))) (hS1 : va_S (q_A base) s.heap H1 locs1) : z_Hp base D tt kw s w0 t0 H1 locs1 (ws.set j (a, e')) tys ts := ⟨hp.1.set he ht hc, hP1, hp.2.2.1, hD1, hS1, hp.2.2.2.2.2.set he ht hs⟩
theorem z_setF_m (V : z_V) (F : List z_A) : (z_setF V F).2.2.2.2.2 = V.2.2.2.2.2 := rfl
theorem z_Sv.setF {sa : Nat → Nat} {tt : Nat → z_T} {vs0 : List Value} {ws ws' : va_W} {ts ts' : List Nat} {V : z_V} {vs : List Value} (h : z_Sv sa tt vs0 ws ts V vs) {F : List z_A} (hF : z_Fs sa ws' ts' vs F) (hp : q_ad ws <+: q_ad ws') (hq : ts <+: ts') : z_Sv sa tt vs0 ws' ts' (z_setF V F) vs := ⟨h.1, h.2.1.same rfl rfl rfl, hF, h.2.2.2.mono List.prefix_rfl hp hq⟩
section ZI
variable {l : Launch} {base : Nat} {D : va_G} {sa : Nat → Nat} {g : z_G} {J : va_W → List Nat → Prop} {ih : z_F} {d : Nat × Nat} {i pc ln x y z : Nat} {tl : List q_I} {V : z_V} {L st : List z_C} {sp : List Nat} {cx : List z_X} {os : List z_O}
theorem z_upd_in {cA : ClassId} {f : Nat → Int32} {n m k : Nat} {x : Int32} {v : Value} (h : z_at (.inl (cA, m, .inl f)) k = some v) (hk : ¬ k = n) : z_at (.inl (cA, m, .inl (upd f n x))) k = some v := by
  have h : (if k < m then some (Value.int (f k)) else none) = some v := h
  show (if k < m then some (Value.int (upd f n x k)) else none) = some v
  rw [pk_un hk]
  exact h
theorem z_upd_at {cA : ClassId} {f : Nat → Int32} {n m : Nat} {x : Int32} (h : n < m) : z_at (.inl (cA, m, .inl (upd f n x))) n = some (.int x) := by
  show (if n < m then some (Value.int (upd f n x n)) else none) = _
  rw [if_pos h, pk_us]
theorem z_s_iastore (hd : decode (q_b i) pc = .ok (.iastore, ln)) (hk : q_lnk i pc ln (.iastore) x y z) (hgx : z_gx cx) (hN : z_HN l base D sa g J ih d i (pc + ln) tl sp) (hr : z_step g q_code ih d i (q_code i) pc (.iastore) x y z tl V L st sp cx = some os) : z_Ok l base D sa g J d i pc V L st cx os := by
  have e1 : ln = 1 := hk
  subst e1
  match st, hr with
  | [], hr => cases hr
  | [_], hr => cases hr
  | [_, _], hr => cases hr
  | b :: j :: a :: r, hr =>
    have hr : z_ias g.1 g.2.1 V a j b (fun w => ih d i (q_code i) tl w L r sp cx) = some os := hr
    intro p e s m args below meth c Q w0 t0 vs0 H locs ls sv ws tys ts vs C hp hv hL hs hx hf
    obtain ⟨vb, sv1, rfl, hvb, hs1⟩ := hs.cons
    obtain ⟨vj, sv2, rfl, hvj, hs2⟩ := hs1.cons
    obtain ⟨va, sv3, rfl, hva, hs3⟩ := hs2.cons
    obtain ⟨g1, g2, g3, g4, g5, g6, hr2⟩ := z_ix_inv hr
    obtain ⟨q, jj, rfl, v1, v2, v3⟩ := hva.nonnull hv.2.1 g1
    obtain ⟨en, he, hc⟩ := hp.1.cell v2 v3
    obtain ⟨n, rfl, n1, n2, n3, n4, n5, n6, n7, n8⟩ := z_idx hv.2.1 hvj g2 g3 g4 g5
    clear hr
    generalize (bif Nat.beq (z_il V j) (z_ih V j) then ((0, 0, z_il V j) : z_C) else j) = ic at n7 n8 hr2
    generalize z_il V j = lo at g3 n5 hr2
    generalize z_ih V j = hi at g4 n6 hr2
    have hr2 : (bif Nat.beq (g.1 a.2.2).1 1 && (Nat.beq b.1 0 && (z_sto g.1 V (g.1 a.2.2) ic lo hi b && z_kw g.2.1 a.2.2 lo hi)) then ih d i (q_code i) tl (z_setF V (bif Nat.beq lo hi || Nat.beq (g.1 a.2.2).2.2.2.2 2 then (a.2.1, a.2.2, ic, b) :: z_flt (z_kp V a.2.2 ic lo hi b) V.2.2.2.1 else z_flt (z_kp V a.2.2 ic lo hi b) V.2.2.2.1)) L r sp cx else none) = some os := hr2
    obtain ⟨h1, hr3⟩ := q_bifs hr2
    clear hr2
    obtain ⟨h1, h2⟩ := q_ands h1
    obtain ⟨h2, h3⟩ := q_ands h2
    obtain ⟨h3, h4⟩ := q_ands h3
    have kb := q_beq.mp h2
    obtain ⟨_, xv, -, rfl, -⟩ := id (hvb.int kb)
    obtain ⟨cA, t, f, rfl, ht, hbd⟩ := hc.ints (q_beq.mp h1)
    have hst := z_sto_s h3 hv.2.1 hv.2.2.2 n7 n8 n2 n5 n6 hvb kb
    have hc2 : z_cell (q_ad ws) ts tys (g.1 a.2.2) (.inl (cA, (g.1 a.2.2).2.1, .inl (upd f n xv))) := Or.inr (Or.inl ⟨q_beq.mp h1, cA, t, _, rfl, ht, fun k hk => by
      by_cases ek : k = n
      · subst ek
        rw [pk_us]
        exact hst
      · rw [pk_un ek]
        exact hbd k hk⟩)
    refine va_iast C.1.1 C.1.2.1 hp.2.2.1 hp.2.1 hp.2.2.2.1 hp.2.2.2.2.1 jj t he ht n4 hd (fun H1 locs1 hP1 hD1 hS1 => ?_)
    rw [n3] at hP1 hD1
    have hp2 := hp.set he v3 hc2 (fun k v hk hw => z_upd_in hk (fun e9 => hw (z_wr.of h4 (by omega) (by omega)))) hP1 hD1 hS1
    have hF2 := z_keep hv.2.1 hv.2.2.1 (e' := .inl (cA, (g.1 a.2.2).2.1, .inl (upd f n xv))) (c := b) (w := .int xv) hp.2.2.2.1 he v3 n7 n8 n2 n5 n6 (fun k v ek hk => z_upd_in hk ek) (fun _ _ => z_upd_at n1) (Or.inl hvb)
    have hq : q_ad ws <+: q_ad (ws.set jj (q, .inl (cA, (g.1 a.2.2).2.1, .inl (upd f n xv)))) := by rw [q_ad_set ws jj q _ _ he]; exact List.prefix_rfl
    have hF3 : z_Fs sa (ws.set jj (q, .inl (cA, (g.1 a.2.2).2.1, .inl (upd f n xv)))) ts vs (bif Nat.beq lo hi || Nat.beq (g.1 a.2.2).2.2.2.2 2 then (a.2.1, a.2.2, ic, b) :: z_flt (z_kp V a.2.2 ic lo hi b) V.2.2.2.1 else z_flt (z_kp V a.2.2 ic lo hi b) V.2.2.2.1) := by
      cases hb9 : (Nat.beq lo hi || Nat.beq (g.1 a.2.2).2.2.2.2 2) with
      | false => exact hF2
      | true =>
        intro f9 hf9
        rcases List.mem_cons.mp hf9 with rfl | hf9
        · exact ⟨q, jj, n, .inl (cA, (g.1 a.2.2).2.1, .inl (upd f n xv)), nI n, .int xv, v1, by rw [List.getElem?_set_self (List.getElem?_eq_some_iff.mp he).1], v3, n7.mono List.prefix_rfl hq List.prefix_rfl, n8, n2, z_upd_at n1, hvb.mono List.prefix_rfl hq List.prefix_rfl⟩
        · exact hF2 f9 hf9
    exact z_go (hN _ L r cx os hgx hr3) hgx C hp2 (hv.setF hF3 hq List.prefix_rfl) List.prefix_rfl (hL.mono List.prefix_rfl hq List.prefix_rfl) (z_Sr.mono List.prefix_rfl hq List.prefix_rfl hs3) hx hf (n := V.2.2.2.2.2) (z_setF_m V _)
theorem z_bool01 {c : z_C} {vs : List Value} {ad ts : List Nat} {xv : Int32} (hE : z_E V vs) (hc : z_v sa ad ts vs c (.int xv)) (kc : c.1 = 0) (h1 : z_po V c = true) (h2 : Nat.ble (z_ih V c) 2147483649 = true) : ∃ w, w < 2 ∧ xv = nI w := by
  have hb := z_il_le hE hc kc
  have h1 := z_po_iff.mp h1
  have h2 := q_ble.mp h2
  obtain ⟨n, hn, en, en2⟩ := z_nat (x := xv) (by omega)
  exact ⟨n, by omega, en⟩
theorem z_s_bastore (hbyte : ∀ t, (g.1 t).1 = 3 → ∀ (k : Nat) (w : Int32), (z_el (g.1 t).2.2.1 (k % (g.1 t).2.2.2.1)).1 ≤ q_qb w ∧ q_qb w ≤ (z_el (g.1 t).2.2.1 (k % (g.1 t).2.2.2.1)).2) (hd : decode (q_b i) pc = .ok (.bastore, ln)) (hk : q_lnk i pc ln (.bastore) x y z) (hgx : z_gx cx) (hN : z_HN l base D sa g J ih d i (pc + ln) tl sp) (hr : z_step g q_code ih d i (q_code i) pc (.bastore) x y z tl V L st sp cx = some os) : z_Ok l base D sa g J d i pc V L st cx os := by
  have e1 : ln = 1 := hk
  subst e1
  match st, hr with
  | [], hr => cases hr
  | [_], hr => cases hr
  | [_, _], hr => cases hr
  | b :: j :: a :: r, hr =>
    have hr : z_bas g.1 g.2.1 V a j b (fun w => ih d i (q_code i) tl w L r sp cx) = some os := hr
    intro p e s m args below meth c Q w0 t0 vs0 H locs ls sv ws tys ts vs C hp hv hL hs hx hf
    obtain ⟨vb, sv1, rfl, hvb, hs1⟩ := hs.cons
    obtain ⟨vj, sv2, rfl, hvj, hs2⟩ := hs1.cons
    obtain ⟨va, sv3, rfl, hva, hs3⟩ := hs2.cons
    obtain ⟨g1, g2, g3, g4, g5, g6, hr2⟩ := z_ix_inv hr
    obtain ⟨q, jj, rfl, v1, v2, v3⟩ := hva.nonnull hv.2.1 g1
    obtain ⟨en, he, hc⟩ := hp.1.cell v2 v3
    obtain ⟨n, rfl, n1, n2, n3, n4, n5, n6, n7, n8⟩ := z_idx hv.2.1 hvj g2 g3 g4 g5
    clear hr
    generalize (bif Nat.beq (z_il V j) (z_ih V j) then ((0, 0, z_il V j) : z_C) else j) = ic at n7 n8 hr2
    generalize z_il V j = lo at g3 n5 hr2
    generalize z_ih V j = hi at g4 n6 hr2
    have hr2 : (bif (Nat.beq (g.1 a.2.2).1 3 || (Nat.beq (g.1 a.2.2).1 5 && (z_sto g.1 V (g.1 a.2.2) ic lo hi b && (z_po V b && Nat.ble (z_ih V b) 2147483649)))) && (Nat.beq b.1 0 && z_kw g.2.1 a.2.2 lo hi) then ih d i (q_code i) tl (z_setF V (bif Nat.beq lo hi && Nat.beq (g.1 a.2.2).1 5 then (a.2.1, a.2.2, ic, b) :: z_flt (z_kp V a.2.2 ic lo hi (bif Nat.beq (g.1 a.2.2).1 5 then b else (8, 0, 0))) V.2.2.2.1 else z_flt (z_kp V a.2.2 ic lo hi (bif Nat.beq (g.1 a.2.2).1 5 then b else (8, 0, 0))) V.2.2.2.1)) L r sp cx else none) = some os := hr2
    obtain ⟨h1, hr3⟩ := q_bifs hr2
    clear hr2
    obtain ⟨h1, h2⟩ := q_ands h1
    obtain ⟨h2, h4⟩ := q_ands h2
    have kb := q_beq.mp h2
    obtain ⟨_, xv, -, rfl, -⟩ := id (hvb.int kb)
    rcases q_ors h1 with h1 | h1
    · have k3 := q_beq.mp h1
      obtain ⟨cA, t, f, rfl, ht, hbd⟩ := hc.bytes k3
      have hfl : ∀ k, k < (g.1 a.2.2).2.1 → (z_el (g.1 a.2.2).2.2.1 (k % (g.1 a.2.2).2.2.2.1)).1 ≤ q_qb (upd f n (vp_nar .byte xv) k) ∧ q_qb (upd f n (vp_nar .byte xv) k) ≤ (z_el (g.1 a.2.2).2.2.1 (k % (g.1 a.2.2).2.2.2.1)).2 := fun k hk => by
        by_cases ek : k = n
        · subst ek
          rw [pk_us]
          exact hbyte a.2.2 k3 _ _
        · rw [pk_un ek]
          exact hbd k hk
      have hc2 : z_cell (q_ad ws) ts tys (g.1 a.2.2) (.inl (cA, (g.1 a.2.2).2.1, .inl (upd f n (vp_nar .byte xv)))) := Or.inr (Or.inr (Or.inl ⟨k3, cA, t, _, rfl, ht, hfl⟩))
      refine va_bast C.1.1 C.1.2.1 hp.2.2.1 hp.2.1 hp.2.2.2.1 hp.2.2.2.2.1 jj t he ht n4 hd (fun H1 locs1 hP1 hD1 hS1 => ?_)
      rw [n3] at hP1 hD1
      have hp2 := hp.set he v3 hc2 (fun k v hk hw => z_upd_in hk (fun e9 => hw (z_wr.of h4 (by omega) (by omega)))) hP1 hD1 hS1
      have h5 : Nat.beq (g.1 a.2.2).1 5 = false := q_bneq.mpr (by omega)
      rw [h5] at hr3
      have hF2 := z_keep hv.2.1 hv.2.2.1 (e' := .inl (cA, (g.1 a.2.2).2.1, .inl (upd f n (vp_nar .byte xv)))) (c := (8, 0, 0)) (w := .int (vp_nar .byte xv)) hp.2.2.2.1 he v3 n7 n8 n2 n5 n6 (fun k v ek hk => z_upd_in hk ek) (fun _ _ => z_upd_at n1) (Or.inr rfl)
      have hq : q_ad ws <+: q_ad (ws.set jj (q, .inl (cA, (g.1 a.2.2).2.1, .inl (upd f n (vp_nar .byte xv))))) := by rw [q_ad_set ws jj q _ _ he]; exact List.prefix_rfl
      have hF3 : z_Fs sa (ws.set jj (q, .inl (cA, (g.1 a.2.2).2.1, .inl (upd f n (vp_nar .byte xv))))) ts vs (bif Nat.beq lo hi && false then (a.2.1, a.2.2, ic, b) :: z_flt (z_kp V a.2.2 ic lo hi (8, 0, 0)) V.2.2.2.1 else z_flt (z_kp V a.2.2 ic lo hi (8, 0, 0)) V.2.2.2.1) := by
        rw [Bool.and_false]
        exact hF2
      exact z_go (hN _ L r cx os hgx hr3) hgx C hp2 (hv.setF hF3 hq List.prefix_rfl) List.prefix_rfl (hL.mono List.prefix_rfl hq List.prefix_rfl) (z_Sr.mono List.prefix_rfl hq List.prefix_rfl hs3) hx hf (n := V.2.2.2.2.2) (z_setF_m V _)
    · obtain ⟨h5, h6⟩ := q_ands h1
      obtain ⟨h6, h7⟩ := q_ands h6
      obtain ⟨h7, h8⟩ := q_ands h7
      have k5 := q_beq.mp h5
      obtain ⟨w9, hw9, ew9⟩ := z_bool01 hv.2.1 hvb kb h7 h8
      obtain ⟨cA, t, f, rfl, ht, hbd⟩ := hc.bools k5
      have hst := z_sto_s h6 hv.2.1 hv.2.2.2 n7 n8 n2 n5 n6 hvb kb
      have enar : vp_nar .boolean xv = xv := by rw [ew9]; exact q_nar_z w9 hw9
      have hc2 : z_cell (q_ad ws) ts tys (g.1 a.2.2) (.inl (cA, (g.1 a.2.2).2.1, .inl (upd f n xv))) := Or.inr (Or.inr (Or.inr (Or.inl ⟨k5, cA, t, _, rfl, ht, fun k hk => by
        by_cases ek : k = n
        · subst ek
          rw [pk_us]
          exact hst
        · rw [pk_un ek]
          exact hbd k hk⟩)))
      refine va_zast C.1.1 C.1.2.1 hp.2.2.1 hp.2.1 hp.2.2.2.1 hp.2.2.2.2.1 jj t he ht n4 hd (fun H1 locs1 hP1 hD1 hS1 => ?_)
      rw [n3, enar] at hP1 hD1
      have hp2 := hp.set he v3 hc2 (fun k v hk hw => z_upd_in hk (fun e9 => hw (z_wr.of h4 (by omega) (by omega)))) hP1 hD1 hS1
      rw [h5] at hr3
      have hF2 := z_keep hv.2.1 hv.2.2.1 (e' := .inl (cA, (g.1 a.2.2).2.1, .inl (upd f n xv))) (c := b) (w := .int xv) hp.2.2.2.1 he v3 n7 n8 n2 n5 n6 (fun k v ek hk => z_upd_in hk ek) (fun _ _ => z_upd_at n1) (Or.inl hvb)
      have hq : q_ad ws <+: q_ad (ws.set jj (q, .inl (cA, (g.1 a.2.2).2.1, .inl (upd f n xv)))) := by rw [q_ad_set ws jj q _ _ he]; exact List.prefix_rfl
      have hF3 : z_Fs sa (ws.set jj (q, .inl (cA, (g.1 a.2.2).2.1, .inl (upd f n xv)))) ts vs (bif Nat.beq lo hi && true then (a.2.1, a.2.2, ic, b) :: z_flt (z_kp V a.2.2 ic lo hi b) V.2.2.2.1 else z_flt (z_kp V a.2.2 ic lo hi b) V.2.2.2.1) := by
        cases hb9 : (Nat.beq lo hi && true) with
        | false => exact hF2
        | true =>
          intro f9 hf9
          rcases List.mem_cons.mp hf9 with rfl | hf9
          · exact ⟨q, jj, n, .inl (cA, (g.1 a.2.2).2.1, .inl (upd f n xv)), nI n, .int xv, v1, by rw [List.getElem?_set_self (List.getElem?_eq_some_iff.mp he).1], v3, n7.mono List.prefix_rfl hq List.prefix_rfl, n8, n2, z_upd_at n1, hvb.mono List.prefix_rfl hq List.prefix_rfl⟩
          · exact hF2 f9 hf9
      exact z_go (hN _ L r cx os hgx hr3) hgx C hp2 (hv.setF hF3 hq List.prefix_rfl) List.prefix_rfl (hL.mono List.prefix_rfl hq List.prefix_rfl) (z_Sr.mono List.prefix_rfl hq List.prefix_rfl hs3) hx hf (n := V.2.2.2.2.2) (z_setF_m V _)
end ZI
