/-! ===== contracts that are known, and calls ===== -/
def z_Ta (ad ts : List Nat) : List z_C → List Value → Prop
  | [], [] => True
  | t :: ta, v :: av => z_tv ad ts t v ∧ z_Ta ad ts ta av
  | _, _ => False
/-- the facts that a contract wants: values bound one by one -/
def z_Pf (ws : va_W) (ts : List Nat) : List (Nat × Nat × z_C) → List Value → List Value → Prop
  | [], bv, out => out = bv
  | q :: ps, bv, out => ∃ (a j : Nat) (e : va_E) (r : Value), bv[q.1]? = some (.ref a) ∧ ws[j]? = some (a, e) ∧ z_at e q.2.1 = some r ∧ z_tv (q_ad ws) ts q.2.2 r ∧ z_Pf ws ts ps (bv ++ [r]) out
/-- what holds behind it -/
def z_CP (M : z_M) (bv : List Value) : Option Value → va_W → List Nat → Prop := fun v ws ts => (if M.2.2.2.2.2.2.1 = true then ∃ t ∈ M.2.2.2.2.2.2.2.1, ∃ r, v = some r ∧ z_tv (q_ad ws) ts t r else v = none) ∧ ∀ q ∈ M.2.2.2.2.2.2.2.2, ∃ (a j : Nat) (e : va_E) (r : Value), bv[q.1]? = some (.ref a) ∧ ws[j]? = some (a, e) ∧ z_at e q.2.1 = some r ∧ z_tv (q_ad ws) ts q.2.2 r
def z_Con (l : Launch) (base : Nat) (D : va_G) (sa : Nat → Nat) (tt : Nat → z_T) (J : va_W → List Nat → Prop) (M : z_M) : Prop := ∀ (ws : va_W) (ts : List Nat) (av bv : List Value), z_Ta (q_ad ws) ts M.2.1 av → z_Pf ws ts M.2.2.1 av bv → J ws ts → z_Met l base D sa tt M.2.2.2.1 (M.2.2.2.2.2.1, M.2.2.2.2.1) M.1 av ws ts (z_CP M bv)
theorem z_cA_s {sa : Nat → Nat} {ad ts : List Nat} {V : z_V} {vs : List Value} (hE : z_E V vs) : ∀ {ta as : List z_C} {av : List Value}, z_cA V ta as = true → z_Sr sa ad ts vs as av → z_Ta ad ts ta av
  | [], [], [], _, _ => trivial
  | [], _ :: _, _, h, _ => by cases h
  | _ :: _, [], _, h, _ => by cases h
  | t :: ta, c :: as, v :: av, h, hs => by
    have h : (z_fit V t c && z_cA V ta as) = true := h
    exact ⟨z_fit_s (q_ands h).1 hE hs.1, z_cA_s hE (q_ands h).2 hs.2⟩
  | [], [], _ :: _, _, hs => hs.elim
  | _ :: _, _ :: _, [], _, hs => hs.elim
theorem z_Sr.snoc {sa : Nat → Nat} {ad ts : List Nat} {vs : List Value} {c : z_C} {v : Value} (hv : z_v sa ad ts vs c v) : ∀ {as : List z_C} {av : List Value}, z_Sr sa ad ts vs as av → z_Sr sa ad ts vs (as ++ [c]) (av ++ [v])
  | [], [], _ => ⟨hv, trivial⟩
  | _ :: _, _ :: _, h => ⟨h.1, z_Sr.snoc hv h.2⟩
  | [], _ :: _, h => h.elim
  | _ :: _, [], h => h.elim
theorem z_Sr.nth {sa : Nat → Nat} {ad ts : List Nat} {vs : List Value} : ∀ {as : List z_C} {av : List Value}, z_Sr sa ad ts vs as av → ∀ k, ¬ (z_nth as k).1 = 9 → ∃ v, av[k]? = some v ∧ z_v sa ad ts vs (z_nth as k) v
  | [], [], _, k, h => absurd rfl h
  | c :: as, v :: av, h, 0, _ => ⟨v, rfl, h.1⟩
  | c :: as, v :: av, h, k + 1, hk => z_Sr.nth h.2 k hk
  | [], _ :: _, h, _, _ => h.elim
  | _ :: _, [], h, _, _ => h.elim
theorem z_cF_s {base : Nat} {sa : Nat → Nat} {V : z_V} {ws : va_W} {ts : List Nat} {vs : List Value} (hE : z_E V vs) (hF : z_Fs sa ws ts vs V.2.2.2.1) (hD : va_D (q_A base) ws) (hw : ts.length = ws.length) : ∀ (ps : List (Nat × Nat × z_C)) {cs cs' : List z_C} {bv : List Value}, z_cF V ps cs = some cs' → z_Sr sa (q_ad ws) ts vs cs bv → ∃ bv', z_Pf ws ts ps bv bv' ∧ z_Sr sa (q_ad ws) ts vs cs' bv'
  | [], cs, cs', bv, h, hs => by
    have h : some cs = some cs' := h
    cases h
    exact ⟨bv, rfl, hs⟩
  | q :: ps, cs, cs', bv, h, hs => by
    have h : (bif Nat.beq (z_nth cs q.1).1 1 && Nat.ble q.2.1 100000 then (match z_fg V.2.2.2.1 (z_nth cs q.1).2.1 (z_kc q.2.1) with
      | none => none
      | some c => bif z_fit V q.2.2 c then z_cF V ps (cs ++ [c]) else none) else none) = some cs' := h
    obtain ⟨h1, h2⟩ := q_bifs h
    obtain ⟨h1, h3⟩ := q_ands h1
    have h1 := q_beq.mp h1
    have h3 := q_ble.mp h3
    obtain ⟨v, hv1, hv2⟩ := hs.nth q.1 (by omega)
    cases hf : z_fg V.2.2.2.1 (z_nth cs q.1).2.1 (z_kc q.2.1) with
    | none => rw [hf] at h2; cases h2
    | some c =>
      rw [hf] at h2
      obtain ⟨h4, h5⟩ := q_bifs h2
      obtain ⟨f, f1, f2, f3, f4⟩ := z_fg_s hf
      obtain ⟨a, j, k, e, y, r, g1, g2, g3, g4, g5, g6, g7, g8⟩ := hF f f1
      have hva := (hv2.ref h1).1
      rw [f2, hva] at g1
      cases g1
      obtain ⟨u1, u2⟩ := z_kc_v (sa := sa) (ad := q_ad ws) (ts := ts) hE (show q.2.1 < 2147483648 by omega)
      rw [f3] at g4
      have ey := g4.inj u1 rfl
      subst ey
      have ek : k = q.2.1 := by omega
      subst ek
      rw [f4] at g8
      obtain ⟨bv', b1, b2⟩ := z_cF_s hE hF hD hw ps h5 (z_Sr.snoc g8 hs)
      exact ⟨bv', ⟨a, j, e, r, hv1, g2, g7, z_fit_s h4 hE g8, b1⟩, b2⟩
/-- facts behind a contract are added -/
theorem z_cP_s {base : Nat} {sa : Nat → Nat} {tt : Nat → z_T} {ws : va_W} {ts : List Nat} {vs0 : List Value} {cs : List z_C} {bv : List Value} {k : z_V → Option (List z_O)} {os : List z_O} {vs : List Value} (hD : va_D (q_A base) ws) (hcs : z_Sr sa (q_ad ws) ts vs cs bv) : ∀ (ps : List (Nat × Nat × z_C)) {V : z_V} {vs1 : List Value}, z_cP cs ps V k = some os → vs <+: vs1 → z_Sv sa tt vs0 ws ts V vs1 → (∀ q ∈ ps, ∃ (a j : Nat) (e : va_E) (r : Value), bv[q.1]? = some (.ref a) ∧ ws[j]? = some (a, e) ∧ z_at e q.2.1 = some r ∧ z_tv (q_ad ws) ts q.2.2 r) → ∃ U vs', k U = some os ∧ vs1 <+: vs' ∧ z_Sv sa tt vs0 ws ts U vs' ∧ U.2.2.2.2.2 = V.2.2.2.2.2
  | [], V, vs1, h, _, hv, _ => ⟨V, vs1, h, List.prefix_rfl, hv, rfl⟩
  | q :: ps, V, vs1, h, hpre, hv, hq => by
    have h : (bif Nat.beq (z_nth cs q.1).1 1 && Nat.ble q.2.1 100000 then z_ld V q.2.2 (fun w c => z_cP cs ps (z_addF w ((z_nth cs q.1).2.1, (z_nth cs q.1).2.2, z_kc q.2.1, c)) k) else none) = some os := h
    obtain ⟨h1, h2⟩ := q_bifs h
    obtain ⟨h1, h3⟩ := q_ands h1
    have h1 := q_beq.mp h1
    have h3 := q_ble.mp h3
    obtain ⟨a, j, e, r, g1, g2, g3, g4⟩ := hq q List.mem_cons_self
    obtain ⟨v, hv1, hv2⟩ := hcs.nth q.1 (by omega)
    rw [g1] at hv1
    cases hv1
    obtain ⟨w1, w2⟩ := hv2.ref h1
    obtain ⟨W1, c1, vs2, k1, k2, k3, k4, k5⟩ := (z_ld_s (sa := sa) h2 hv.2.1 g4).rs hv
    obtain ⟨u1, u2⟩ := z_kc_v (sa := sa) (ad := q_ad ws) (ts := ts) k3.2.1 (show q.2.1 < 2147483648 by omega)
    have htag : ts[j]? = some (z_nth cs q.1).2.2 := by
      rcases w2 with w2 | ⟨j2, a2, w2, w3, w4⟩
      · cases w2
      · cases w2
        have hw3 : ∃ e2, ws[j2]? = some (a, e2) := by
          rw [List.getElem?_map] at w3
          cases h9 : ws[j2]? with
          | none => rw [h9] at w3; cases w3
          | some q9 =>
            rw [h9] at w3
            obtain ⟨a9, e9⟩ := q9
            cases w3
            exact ⟨e9, rfl⟩
        obtain ⟨e2, he2⟩ := hw3
        have ej : j = j2 := hD.1 j j2 _ _ g2 he2 rfl
        rw [ej]
        exact w4
    obtain ⟨U, vs', z1, z2, z3, z4⟩ := z_cP_s hD hcs ps k1 (hpre.trans k2) (k3.addF ⟨a, j, q.2.1, e, nI q.2.1, r, z_gm (hpre.trans k2) w1, g2, htag, u1, rfl, u2, g3, k5⟩) (fun q2 hq2 => hq q2 (List.mem_cons_of_mem _ hq2))
    exact ⟨U, vs', z1, k2.trans z2, z3, z4.trans k4⟩
theorem z_find_s {α : Type} {p : α → Bool} : ∀ {l : List α} {a : α}, z_find p l = some a → a ∈ l ∧ p a = true
  | [], _, h => by cases h
  | b :: t, a, h => by
    have h : (bif p b then some b else z_find p t) = some a := h
    cases hb : p b with
    | true =>
      rw [q_ift _ _ hb] at h
      cases h
      exact ⟨List.mem_cons_self, hb⟩
    | false =>
      rw [q_iff _ _ hb] at h
      obtain ⟨h1, h2⟩ := z_find_s h
      exact ⟨List.mem_cons_of_mem _ h1, h2⟩
/-- what a call gives: a contract, and how the caller goes on behind it -/
def z_Cl (l : Launch) (base : Nat) (D : va_G) (sa : Nat → Nat) (g : z_G) (d : Nat × Nat) (x : Nat) (av : List Value) (ws : va_W) (ts : List Nat) (V : z_V) (vs vs0 : List Value) (k : z_V → List z_C → Option (List z_O)) (os : List z_O) : Prop := ∃ (dd : Nat × Nat) (kc : List z_C) (post : Option Value → va_W → List Nat → Prop), dd.1 + 1 ≤ d.1 ∧ V.2.2.2.2.2 + dd.2 ≤ d.2 ∧ (∀ t n, z_wr kc t n → z_wr g.2.1 t n) ∧ z_Met l base D sa g.1 kc dd x av ws ts post ∧ ∀ (v : Option Value) (ws' : va_W) (ts' : List Nat), va_D (q_A base) ws' → z_Fr kc ws ts ws' ts' → post v ws' ts' → ∃ U rt o1 vs', k U rt = some o1 ∧ (∀ o ∈ o1, o ∈ os) ∧ vs <+: vs' ∧ z_Sv sa g.1 vs0 ws' ts' U vs' ∧ U.2.2.2.2.2 = V.2.2.2.2.2 + dd.2 ∧ z_Sr sa (q_ad ws') ts' vs' rt v.toList
def z_HC (l : Launch) (base : Nat) (D : va_G) (sa : Nat → Nat) (g : z_G) (J : va_W → List Nat → Prop) (ih : z_F) : Prop := ∀ (d : Nat × Nat) (x : Nat) (V : z_V) (L : List z_C) (os : List z_O), x < q_nM → ih d x (q_code x) (q_code x) V L [] [] [] = some os → z_Ok l base D sa g J d x 0 V L [] [] os
theorem z_setM_E {V : z_V} {vs : List Value} {n : Nat} (h : z_E V vs) : z_E (z_setM V n) vs := h.same rfl rfl rfl
section ZK
variable {l : Launch} {base : Nat} {D : va_G} {sa : Nat → Nat} {g : z_G} {J : va_W → List Nat → Prop} {ih : z_F} {d : Nat × Nat} {x : Nat} {V : z_V} {as : List z_C} {k : z_V → List z_C → Option (List z_O)} {os : List z_O}
theorem z_inl_s {dx : Nat × Nat} {V1 : z_V} {n : Nat} (hok : ∀ i, i < q_nM → q_mok i) (hC : z_HC l base D sa g J ih) (hx : x < q_nM) (hr : z_inl q_code ih dx x as V1 (fun os => z_fold os (fun o => k (z_setM o.2.1 n) o.2.2.2)) = some os) (hm : V1.2.2.2.2.2 = 0) (hlen : (z_sl as).length ≤ q_ml x) (hd1 : dx.1 + 1 ≤ d.1) (hd2 : V.2.2.2.2.2 + dx.2 ≤ d.2) (hn : n = V.2.2.2.2.2 + dx.2) {ws : va_W} {ts : List Nat} {vs vs0 av : List Value} (hpre : vs0 <+: vs) (hE : z_E V1 vs) (hF : z_Fs sa ws ts vs V1.2.2.2.1) (hD9 : z_Ds sa g.1 (q_ad ws) ts vs V1.2.2.2.2.1) (has : z_Sr sa (q_ad ws) ts vs as av) (hJ : ∀ ws' ts', z_Fr g.2.1 ws ts ws' ts' → J ws' ts') : z_Cl l base D sa g d x av ws ts V vs vs0 k os := by
  unfold z_inl at hr
  cases h1 : ih dx x (q_code x) (q_code x) V1 (z_pad (q_ml x) (z_sl as)) [] [] [] with
  | none => rw [h1] at hr; cases hr
  | some o1 =>
    rw [h1] at hr
    obtain ⟨h2, h3⟩ := q_bifs hr
    have hM := z_meth (hok x hx) (hC dx x V1 _ o1 hx h1) h2 hm hlen hE hF hD9 has hJ
    refine ⟨dx, g.2.1, _, hd1, hd2, fun _ _ h => h, hM, fun v ws' ts' hD hfr hpost => ?_⟩
    obtain ⟨o, ho, vs', p1, p2⟩ := hpost
    obtain ⟨q, q1, q2⟩ := z_fold_inv h3 o ho
    refine ⟨z_setM o.2.1 n, o.2.2.2, q, vs', q1, q2, p1.1, ⟨hpre.trans p1.1, z_setM_E p1.2.1, p1.2.2.1, p1.2.2.2⟩, ?_, p2⟩
    show n = _
    exact hn
theorem z_cal_s (hok : ∀ i, i < q_nM → q_mok i) (hC : z_HC l base D sa g J ih) (hmem : ∀ M ∈ g.2.2.2.2, z_Con l base D sa g.1 J M) (hx : x < q_nM) (hr : z_cal g q_code ih d x as V k = some os) (hlen : (z_sl as).length ≤ q_ml x) {s : State} {w0 : va_W} {t0 : List Nat} {H : Heap} {locs : List Loc} {ws : va_W} {tys : List (ClassId × FieldType)} {ts : List Nat} {vs vs0 av : List Value} (hp : z_Hp base D g.1 g.2.1 s w0 t0 H locs ws tys ts) (hv : z_Sv sa g.1 vs0 ws ts V vs) (has : z_Sr sa (q_ad ws) ts vs as av) (hJ : ∀ ws' ts', z_Fr g.2.1 w0 t0 ws' ts' → J ws' ts') : z_Cl l base D sa g d x av ws ts V vs vs0 k os := by
  have hJ2 : ∀ ws' ts', z_Fr g.2.1 ws ts ws' ts' → J ws' ts' := fun ws' ts' h => hJ ws' ts' (hp.2.2.2.2.2.trans h)
  unfold z_cal at hr
  cases hpk : z_pick g.2.2.2.2 V x as with
  | some M =>
    rw [hpk] at hr
    obtain ⟨m1, m2⟩ := z_find_s hpk
    obtain ⟨m2, m3⟩ := q_ands m2
    have m2 := q_beq.mp m2
    obtain ⟨r1, r2⟩ := q_bifs hr
    clear hr
    have hta := z_cA_s hv.2.1 r1 has
    cases hcf : z_cF V M.2.2.1 as with
    | none => rw [hcf] at r2; cases r2
    | some cs =>
      rw [hcf] at r2
      obtain ⟨r3, r4⟩ := q_bifs r2
      clear r2
      obtain ⟨r5, r6⟩ := q_ands r3
      obtain ⟨r6, r7⟩ := q_ands r6
      have r6 := q_blt.mp r6
      have r7 : V.2.2.2.2.2 + M.2.2.2.2.1 ≤ d.2 := q_ble.mp r7
      obtain ⟨bv, b1, b2⟩ := z_cF_s hv.2.1 hv.2.2.1 hp.2.2.2.1 hp.1.1 _ hcf has
      have hM := hmem M m1 ws ts av bv hta b1 (hJ2 ws ts (z_Fr.rf _ _ _))
      rw [m2] at hM
      refine ⟨(M.2.2.2.2.2.1, M.2.2.2.2.1), M.2.2.2.1, _, by show M.2.2.2.2.2.1 + 1 ≤ d.1; omega, r7, fun t n h => ?_, hM, fun v ws' ts' hD hfr hpost => ?_⟩
      · obtain ⟨e, e1, e2, e3, e4⟩ := z_kw_iff.mp h
        have h9 := z_all_iff.mp r5 e e1
        rw [e2] at h9
        exact z_wr.of h9 e3 e4
      · have hF' := z_keeps (F' := z_kls V M.2.2.2.1 V.2.2.2.1) hv.2.1 hv.2.2.1 hfr (fun f hf => by
          obtain ⟨f1, f2⟩ := z_flt_mem.mp hf
          exact ⟨f1, fun k hk => z_all_iff.mp f2 k hk⟩)
        have hv1 : z_Sv sa g.1 vs0 ws' ts' (z_addM (z_setF V (z_kls V M.2.2.2.1 V.2.2.2.1)) M.2.2.2.2.1) vs := ⟨hv.1, hv.2.1.same rfl rfl rfl, hF', hv.2.2.2.mono List.prefix_rfl hfr.2.1 hfr.1⟩
        obtain ⟨U, vs1, z1, z2, z3, z4⟩ := z_cP_s hD (z_Sr.mono List.prefix_rfl hfr.2.1 hfr.1 b2) _ r4 List.prefix_rfl hv1 hpost.2
        have z4 : U.2.2.2.2.2 = V.2.2.2.2.2 + M.2.2.2.2.1 := z4
        have hres := hpost.1
        cases hh : M.2.2.2.2.2.2.1 with
        | true =>
          rw [hh] at z1
          rw [hh, if_pos rfl] at hres
          obtain ⟨t, t1, r, rfl, t2⟩ := hres
          have z1 : z_fold M.2.2.2.2.2.2.2.1 (fun t => z_ld U t (fun w2 c => k w2 [c])) = some os := z1
          obtain ⟨q, q1, q2⟩ := z_fold_inv z1 t t1
          obtain ⟨W1, c1, vs2, k1, k2, k3, k4, k5⟩ := (z_ld_s (sa := sa) q1 z3.2.1 t2).rs z3
          exact ⟨W1, [c1], q, vs2, k1, q2, z2.trans k2, k3, by rw [k4, z4], k5, trivial⟩
        | false =>
          rw [hh] at z1
          rw [hh, if_neg (by decide)] at hres
          subst hres
          exact ⟨U, [], os, vs1, z1, fun _ h => h, z2, z3, z4, trivial⟩
  | none =>
    rw [hpk] at hr
    cases hd : d.1 with
    | zero => rw [hd] at hr; cases hr
    | succ d' =>
      rw [hd] at hr
      cases hal : z_alm x with
      | true =>
        have hr : (bif z_alm x then (bif Nat.beq V.2.2.2.2.2 0 then z_inl q_code ih (d', d.2) x as V (fun os => z_fold os (fun o => k (z_setM o.2.1 d.2) o.2.2.2)) else none) else bif Nat.ble V.2.2.2.2.2 d.2 then z_inl q_code ih (d', 0) x as (z_setM V 0) (fun os => z_fold os (fun o => k (z_setM o.2.1 V.2.2.2.2.2) o.2.2.2)) else none) = some os := hr
        rw [q_ift _ _ hal] at hr
        obtain ⟨h1, h2⟩ := q_bifs hr
        have h1 := q_beq.mp h1
        exact z_inl_s hok hC hx h2 h1 hlen (by show d' + 1 ≤ d.1; omega) (by show V.2.2.2.2.2 + d.2 ≤ d.2; omega) (by show d.2 = V.2.2.2.2.2 + d.2; omega) hv.1 hv.2.1 hv.2.2.1 hv.2.2.2 has hJ2
      | false =>
        have hr : (bif z_alm x then (bif Nat.beq V.2.2.2.2.2 0 then z_inl q_code ih (d', d.2) x as V (fun os => z_fold os (fun o => k (z_setM o.2.1 d.2) o.2.2.2)) else none) else bif Nat.ble V.2.2.2.2.2 d.2 then z_inl q_code ih (d', 0) x as (z_setM V 0) (fun os => z_fold os (fun o => k (z_setM o.2.1 V.2.2.2.2.2) o.2.2.2)) else none) = some os := hr
        rw [q_iff _ _ hal] at hr
        obtain ⟨hle, hr2⟩ := q_bifs hr
        have hle := q_ble.mp hle
        exact z_inl_s hok hC hx hr2 rfl hlen (by show d' + 1 ≤ d.1; omega) (by show V.2.2.2.2.2 + 0 ≤ d.2; omega) rfl hv.1 (z_setM_E hv.2.1) hv.2.2.1 hv.2.2.2 has hJ2
end ZK
