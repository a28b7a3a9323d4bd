/-! ===== instruction by instruction: fields, refs and longs written; copies; ends ===== -/
theorem z_cats_s {sa : Nat → Nat} {ad ts : List Nat} {vs : List Value} : ∀ {st : List z_C} {sv : List Value}, z_Sr sa ad ts vs st sv → (sv.map fun v => v.category).sum ≤ z_cats st
  | [], [], _ => Nat.zero_le _
  | c :: st, v :: sv, h => by
    have ih := z_cats_s h.2
    have e : z_cats (c :: st) = (bif Nat.beq c.1 3 then 2 else 1) + z_cats st := rfl
    rw [e, List.map_cons, List.sum_cons]
    cases hb : Nat.beq c.1 3 with
    | true =>
      have : v.category ≤ 2 := by rcases lv_cat v with h | h <;> omega
      show _ ≤ 2 + z_cats st
      omega
    | false =>
      have := h.1.cat1 (q_bneq.mp hb)
      show _ ≤ 1 + z_cats st
      omega
  | [], _ :: _, h => h.elim
  | _ :: _, [], h => h.elim
section ZI
variable {l : Launch} {base : Nat} {D : va_G} {sa : Nat → Nat} {g : z_G} {J : va_W → List Nat → Prop} {ih : z_F} {d : Nat × Nat} {i pc ln x y z : Nat} {tl : List q_I} {V : z_V} {L st : List z_C} {sp : List Nat} {cx : List z_X} {os : List z_O}
theorem z_s_put {n : Nat} (hcl : q_clok) (hd : decode (q_b i) pc = .ok (.putfield n, ln)) (hk : q_lnk i pc ln (.putfield n) x y z) (hgx : z_gx cx) (hN : z_HN l base D sa g J ih d i (pc + ln) tl sp) (hr : z_step g q_code ih d i (q_code i) pc (.putfield n) x y z tl V L st sp cx = some os) : z_Ok l base D sa g J d i pc V L st cx os := by
  obtain ⟨e1, rc, hrc, hy, hlk, hfin, ty, hty, hz⟩ := hk
  subst e1
  match st, hr with
  | [], hr => cases hr
  | [_], hr => cases hr
  | b :: a :: r, hr =>
    have hr : (bif z_nn V a && (Nat.beq (g.1 a.2.2).1 0 && (Nat.beq (g.1 a.2.2).2.1 x && (z_fit V (z_nth (g.1 a.2.2).2.2.1 y) b && (z_kw g.2.1 a.2.2 (Nat.add 2147483648 y) (Nat.add 2147483648 y) && (bif Nat.beq z 0 then Nat.beq b.1 0 else bif Nat.beq z 1 then Nat.beq b.1 0 && (z_po V b && Nat.ble (z_ih V b) 2147483649) else bif Nat.beq z 2 then Nat.beq b.1 1 || (Nat.beq b.1 2 && Nat.beq b.2.2 0) else Nat.beq b.1 3))))) then ih d i (q_code i) tl (z_setF V ((a.2.1, a.2.2, z_kc y, b) :: z_flt (z_kp V a.2.2 (z_kc y) (Nat.add 2147483648 y) (Nat.add 2147483648 y) b) V.2.2.2.1)) L r sp cx else none) = some os := hr
    obtain ⟨h1, hr2⟩ := q_bifs hr
    clear hr
    obtain ⟨h1, h2⟩ := q_ands h1
    obtain ⟨h2, h3⟩ := q_ands h2
    obtain ⟨h3, h4⟩ := q_ands h3
    obtain ⟨h4, h5⟩ := q_ands h4
    obtain ⟨h5, h6⟩ := q_ands h5
    have h2 := q_beq.mp h2
    have h3 := q_beq.mp h3
    rw [Nat.add_eq] at h5
    intro p e s m args below meth c Q w0 t0 vs0 H locs ls sv ws tys ts vs C hp hv hL hs hx hf
    obtain ⟨vb, sv1, rfl, hvb, hs1⟩ := hs.cons
    obtain ⟨va, sv2, rfl, hva, hs2⟩ := hs1.cons
    obtain ⟨q, jj, rfl, v1, v2, v3⟩ := hva.nonnull hv.2.1 h1
    obtain ⟨en, he, hc⟩ := hp.1.cell v2 v3
    obtain ⟨fs, rfl, f1, f2⟩ := hc.obj h2
    have hsmall : y < 2147483648 := by
      have := q_small x rc hrc
      omega
    obtain ⟨u1, u2⟩ := z_kc_v (sa := sa) (ad := q_ad ws) (ts := ts) hv.2.1 hsmall
    have htv := z_fit_s h4 hv.2.1 hvb
    have hlen : y < fs.length := by
      rw [f1]
      rcases Nat.lt_or_ge y (g.1 a.2.2).2.2.1.length with h | h
      · exact h
      · have e9 : z_nth (g.1 a.2.2).2.2.1 y = (9, 0, 0) := by
          show q_nth _ _ _ = _
          rw [q_nth_eq, List.getD_eq_getElem?_getD, List.getElem?_eq_none h]
          rfl
        rw [e9] at h4
        cases h4
    have hval : narrow ty vb = vb ∧ fits ty vb = true := by
      rcases hz with ⟨rfl, rfl⟩ | ⟨rfl, rfl⟩ | ⟨rfl, ht⟩ | ⟨rfl, rfl⟩
      · have h6 : Nat.beq b.1 0 = true := h6
        obtain ⟨_, xv, -, rfl, -⟩ := id (hvb.int (q_beq.mp h6))
        exact ⟨rfl, rfl⟩
      · have h6 : (Nat.beq b.1 0 && (z_po V b && Nat.ble (z_ih V b) 2147483649)) = true := h6
        obtain ⟨k1, k2⟩ := q_ands h6
        obtain ⟨_, xv, -, rfl, -⟩ := id (hvb.int (q_beq.mp k1))
        obtain ⟨w, hw, ew⟩ := z_bool01 hv.2.1 hvb (q_beq.mp k1) (q_ands k2).1 (q_ands k2).2
        rw [ew]
        exact q_fit_z w hw
      · have h6 : (Nat.beq b.1 1 || (Nat.beq b.1 2 && Nat.beq b.2.2 0)) = true := h6
        have h6 : b.1 = 1 ∨ (b.1 = 2 ∧ b.2.2 = 0) := by
          rcases q_ors h6 with h6 | h6
          · exact Or.inl (q_beq.mp h6)
          · exact Or.inr ⟨q_beq.mp (q_ands h6).1, q_beq.mp (q_ands h6).2⟩
        rcases hvb.obj h6 with rfl | ⟨k, rfl⟩
        · rcases ht with ⟨n, rfl⟩ | ⟨t, rfl⟩ <;> exact ⟨rfl, rfl⟩
        · rcases ht with ⟨n, rfl⟩ | ⟨t, rfl⟩ <;> exact ⟨rfl, rfl⟩
      · have h6 : Nat.beq b.1 3 = true := h6
        obtain ⟨xv, rfl, _⟩ := hvb.lng (q_beq.mp h6)
        exact ⟨rfl, rfl⟩
    rw [h3] at he
    have hother : ∀ k v, ¬ k = y → z_at (.inr (x, fs)) k = some v → z_at (.inr (x, fs.set y vb)) k = some v := fun k v ek hk => by
      show (fs.set y vb)[k]? = some v
      rw [List.getElem?_set_ne (fun z => ek z.symm)]
      exact hk
    have hself : z_at (.inr (x, fs.set y vb)) y = some vb := List.getElem?_set_self hlen
    have hc2 : z_cell (q_ad ws) ts tys (g.1 a.2.2) (.inr (x, fs.set y vb)) := Or.inl ⟨h2, fs.set y vb, by rw [h3], by rw [List.length_set]; exact f1, fun k v hk => by
      by_cases ek : k = y
      · subst ek
        rw [List.getElem?_set_self hlen] at hk
        cases hk
        exact htv
      · rw [List.getElem?_set_ne (fun z => ek z.symm)] at hk
        exact f2 k v hk⟩
    have kk : ∀ (H1 : Heap) (locs1 : List Loc), va_P D q_cls (ws.set jj (q, .inr (x, fs.set y vb))) H1 → va_D (q_A base) (ws.set jj (q, .inr (x, fs.set y vb))) → va_S (q_A base) s.heap H1 locs1 → W p l e (q_rm d.1 (9 * d.2) (446 * d.2)) s m args below meth c H1 locs1 (9 * V.2.2.2.2.2) (446 * V.2.2.2.2.2) Q (F0 m (pc + 3) ls sv2) := by
      intro H1 locs1 hP1 hD1 hS1
      have hp2 := hp.set he v3 hc2 (fun k v hk hw => hother k v (fun e9 => hw (by rw [e9]; exact z_wr.of h5 (Nat.le_refl _) (Nat.le_refl _))) hk) hP1 hD1 hS1
      have hF2 := z_keep hv.2.1 hv.2.2.1 (e' := .inr (x, fs.set y vb)) (c := b) (w := vb) (lo := Nat.add 2147483648 y) (hi := Nat.add 2147483648 y) hp.2.2.2.1 he v3 u1 rfl u2 (by rw [Nat.add_eq]; exact Nat.le_refl _) (by rw [Nat.add_eq]; exact Nat.le_refl _) hother (fun _ _ => hself) (Or.inl hvb)
      have hq : q_ad ws <+: q_ad (ws.set jj (q, .inr (x, fs.set y vb))) := by rw [q_ad_set ws jj q _ _ he]; exact List.prefix_rfl
      have hF3 : z_Fs sa (ws.set jj (q, .inr (x, fs.set y vb))) ts vs ((a.2.1, a.2.2, z_kc y, b) :: z_flt (z_kp V a.2.2 (z_kc y) (Nat.add 2147483648 y) (Nat.add 2147483648 y) b) V.2.2.2.1) := by
        intro f9 hf9
        rcases List.mem_cons.mp hf9 with rfl | hf9
        · exact ⟨q, jj, y, .inr (x, fs.set y vb), nI y, vb, v1, by rw [List.getElem?_set_self (List.getElem?_eq_some_iff.mp he).1], v3, u1.mono List.prefix_rfl hq List.prefix_rfl, rfl, u2, hself, hvb.mono List.prefix_rfl hq List.prefix_rfl⟩
        · exact hF2 f9 hf9
      exact z_go (hN _ L r cx os hgx hr2) hgx C hp2 (hv.setF hF3 hq List.prefix_rfl) List.prefix_rfl (hL.mono List.prefix_rfl hq List.prefix_rfl) (z_Sr.mono List.prefix_rfl hq List.prefix_rfl hs2) hx hf (n := V.2.2.2.2.2) (z_setF_m V _)
    rcases hfin with hfin | ⟨hfin, hi1, hi2⟩
    · exact va_put (D := D) (ci := x) (C := rc.1) (T := rc.2.1) (N := rc.2.2) C.1.1 C.1.2.1 C.1.2.2.2.2.2.1 (hcl x rc hrc).1 _ (hcl x rc hrc).2.1 (hcl x rc hrc).2.2 C.1.2.2.2.2.1 hp.2.2.1 hp.2.1 hp.2.2.2.1 hp.2.2.2.2.1 jj he hrc y hy (C.1.2.2.2.2.2.1 _ hlk) (fun _ h9 => h9) hfin hty hval.1 hval.2 hlen hd kk
    · exact va_putF (D := D) (ci := x) (C := rc.1) (T := rc.2.1) (N := rc.2.2) C.1.1 C.1.2.1 C.1.2.2.2.2.2.1 (hcl x rc hrc).1 _ (hcl x rc hrc).2.1 (hcl x rc hrc).2.2 C.1.2.2.2.2.1 hp.2.2.1 hp.2.1 hp.2.2.2.1 hp.2.2.2.2.1 jj he hrc y hy (C.1.2.2.2.2.2.1 _ hlk) (fun _ h9 => h9) hfin (C.1.2.2.2.2.2.2.2.2.1.trans hi1) hi2 hty hval.1 hval.2 hlen hd kk
theorem z_s_lastore (hd : decode (q_b i) pc = .ok (.lastore, ln)) (hk : z_lnk i pc ln (.lastore) x y z) (hgx : z_gx cx) (hN : z_HN l base D sa g J ih d i (pc + ln) tl sp) (hr : z_step g q_code ih d i (q_code i) pc (.lastore) x y z tl V L st sp cx = some os) : z_Ok l base D sa g J d i pc V L st cx os := by
  have e1 : ln = 1 := hk
  subst e1
  match st, hr with
  | [], hr => cases hr
  | [_], hr => cases hr
  | [_, _], hr => cases hr
  | b :: j :: a :: r, hr =>
    have hr : z_ix g.1 V a j (fun T _ _ _ => bif Nat.beq T.1 7 && Nat.beq b.1 3 then ih d i (q_code i) tl V L r sp cx else none) = some os := hr
    intro p e s m args below meth c Q w0 t0 vs0 H locs ls sv ws tys ts vs C hp hv hL hs hx hf
    obtain ⟨vb, sv1, rfl, hvb, hs1⟩ := hs.cons
    obtain ⟨vj, sv2, rfl, hvj, hs2⟩ := hs1.cons
    obtain ⟨va, sv3, rfl, hva, hs3⟩ := hs2.cons
    obtain ⟨g1, g2, g3, g4, g5, g6, hr2⟩ := z_ix_inv hr
    obtain ⟨q, jj, rfl, v1, v2, v3⟩ := hva.nonnull hv.2.1 g1
    obtain ⟨en, he, hc⟩ := hp.1.cell v2 v3
    obtain ⟨n, rfl, n1, n2, n3, n4, n5, n6, n7, n8⟩ := z_idx hv.2.1 hvj g2 g3 g4 g5
    clear hr
    obtain ⟨h1, hr3⟩ := q_bifs hr2
    clear hr2
    obtain ⟨h1, h2⟩ := q_ands h1
    obtain ⟨xv, rfl, -⟩ := id (hvb.lng (q_beq.mp h2))
    obtain ⟨cA, t, f, rfl, ht⟩ := hc.longs (q_beq.mp h1)
    refine va_last C.1.1 C.1.2.1 hp.2.2.1 hp.2.1 hp.2.2.2.1 hp.2.2.2.2.1 jj t he ht n4 hd (fun H1 locs1 hP1 hD1 hS1 => ?_)
    rw [n3] at hP1 hD1
    have hc2 : z_cell (q_ad ws) ts tys (g.1 a.2.2) (.inl (cA, (g.1 a.2.2).2.1, .inr (.inl (vp_updL f n xv)))) := Or.inr (Or.inr (Or.inr (Or.inr (Or.inl ⟨q_beq.mp h1, cA, t, _, rfl, ht⟩))))
    have hno : ∀ (e9 : va_E) (k9 : Nat) (v9 : Value), z_at (.inl (cA, (g.1 a.2.2).2.1, .inr (.inl f))) k9 = some v9 → z_at e9 k9 = some v9 := fun _ _ _ h9 => by cases h9
    have hq : q_ad ws <+: q_ad (ws.set jj (q, .inl (cA, (g.1 a.2.2).2.1, .inr (.inl (vp_updL f n xv))))) := by rw [q_ad_set ws jj q _ _ he]; exact List.prefix_rfl
    have hp2 := hp.set he v3 hc2 (fun k v hk _ => hno _ k v hk) hP1 hD1 hS1
    have hF2 : z_Fs sa (ws.set jj (q, .inl (cA, (g.1 a.2.2).2.1, .inr (.inl (vp_updL f n xv))))) ts vs V.2.2.2.1 := by
      intro f9 hf9
      obtain ⟨a9, j9, k9, e9, y9, w9, u1, u2, u3, u4, u5, u6, u7, u8⟩ := hv.2.2.1 f9 hf9
      by_cases ej : jj = j9
      · subst ej
        rw [he] at u2
        cases u2
        cases u7
      · exact ⟨a9, j9, k9, e9, y9, w9, u1, by rw [List.getElem?_set_ne ej]; exact u2, u3, u4.mono List.prefix_rfl hq List.prefix_rfl, u5, u6, u7, u8.mono List.prefix_rfl hq List.prefix_rfl⟩
    exact z_go (hN V L r cx os hgx hr3) hgx C hp2 ⟨hv.1, hv.2.1, hF2, hv.2.2.2.mono List.prefix_rfl hq List.prefix_rfl⟩ List.prefix_rfl (hL.mono List.prefix_rfl hq List.prefix_rfl) (z_Sr.mono List.prefix_rfl hq List.prefix_rfl hs3) hx hf rfl
theorem z_s_aastore (hd : decode (q_b i) pc = .ok (.aastore, ln)) (hk : q_lnk i pc ln (.aastore) x y z) (hgx : z_gx cx) (hN : z_HN l base D sa g J ih d i (pc + ln) tl sp) (hr : z_step g q_code ih d i (q_code i) pc (.aastore) x y z tl V L st sp cx = some os) : z_Ok l base D sa g J d i pc V L st cx os := by
  have e1 : ln = 1 := hk
  subst e1
  match st, hr with
  | [], hr => cases hr
  | [_], hr => cases hr
  | [_, _], hr => cases hr
  | b :: j :: a :: r, hr =>
    have hr : z_ix g.1 V a j (fun T _ _ _ => bif Nat.beq T.1 9 && (z_nn V b && (Nat.beq b.2.2 z_tS && (Nat.beq (g.1 z_tS).1 0 && Nat.beq (g.1 z_tS).2.1 5))) then ih d i (q_code i) tl V L r sp cx else none) = some os := hr
    intro p e s m args below meth c Q w0 t0 vs0 H locs ls sv ws tys ts vs C hp hv hL hs hx hf
    obtain ⟨vb, sv1, rfl, hvb, hs1⟩ := hs.cons
    obtain ⟨vj, sv2, rfl, hvj, hs2⟩ := hs1.cons
    obtain ⟨va, sv3, rfl, hva, hs3⟩ := hs2.cons
    obtain ⟨g1, g2, g3, g4, g5, g6, hr2⟩ := z_ix_inv hr
    obtain ⟨q, jj, rfl, v1, v2, v3⟩ := hva.nonnull hv.2.1 g1
    obtain ⟨en, he, hc⟩ := hp.1.cell v2 v3
    obtain ⟨n, rfl, n1, n2, n3, n4, n5, n6, n7, n8⟩ := z_idx hv.2.1 hvj g2 g3 g4 g5
    clear hr
    obtain ⟨h1, hr3⟩ := q_bifs hr2
    clear hr2
    obtain ⟨h1, h2⟩ := q_ands h1
    obtain ⟨h2, h3⟩ := q_ands h2
    obtain ⟨h3, h4⟩ := q_ands h3
    obtain ⟨h4, h5⟩ := q_ands h4
    obtain ⟨qv, jv, rfl, w1, w2, w3⟩ := hvb.nonnull hv.2.1 h2
    rw [q_beq.mp h3] at w3
    obtain ⟨ev, hev, hcv⟩ := hp.1.cell w2 w3
    obtain ⟨fv, rfl, -, -⟩ := hcv.obj (q_beq.mp h4)
    rw [q_beq.mp h5] at hev
    obtain ⟨cA, t, f, rfl, ht, hfr⟩ := hc.refs (q_beq.mp h1)
    have e5 : ∃ r5, q_cls[5]? = some r5 ∧ r5.1 = "SandNights$Sand" := ⟨_, rfl, rfl⟩
    obtain ⟨r5, hr5, hr51⟩ := e5
    refine va_astq C.1.1 C.1.2.1 hp.2.2.1 hp.2.1 hp.2.2.2.1 hp.2.2.2.2.1 jj t jv 5 he (by rw [hr51]; exact ht) hev hr5 n4 hd (fun H1 locs1 hP1 hD1 hS1 => ?_)
    rw [n3] at hP1 hD1
    have hc2 : z_cell (q_ad ws) ts tys (g.1 a.2.2) (.inl (cA, (g.1 a.2.2).2.1, .inr (.inr (.inr (.inr (va_up f n (some qv))))))) := Or.inr (Or.inr (Or.inr (Or.inr (Or.inr ⟨q_beq.mp h1, cA, t, _, rfl, ht, fun k b9 hk hb9 => by
      by_cases ek : k = n
      · subst ek
        have hb9 : (if k = k then some qv else f k) = some b9 := hb9
        rw [if_pos rfl] at hb9
        cases hb9
        exact ⟨jv, qv, rfl, w2, w3⟩
      · have hb9 : (if k = n then some qv else f k) = some b9 := hb9
        rw [if_neg ek] at hb9
        exact hfr k b9 hk hb9⟩))))
    have hno : ∀ (e9 : va_E) (k9 : Nat) (v9 : Value), z_at (.inl (cA, (g.1 a.2.2).2.1, .inr (.inr (.inr (.inr f))))) k9 = some v9 → z_at e9 k9 = some v9 := fun _ _ _ h9 => by cases h9
    have hq : q_ad ws <+: q_ad (ws.set jj (q, .inl (cA, (g.1 a.2.2).2.1, .inr (.inr (.inr (.inr (va_up f n (some qv)))))))) := by rw [q_ad_set ws jj q _ _ he]; exact List.prefix_rfl
    have hp2 := hp.set he v3 hc2 (fun k v hk _ => hno _ k v hk) hP1 hD1 hS1
    have hF2 : z_Fs sa (ws.set jj (q, .inl (cA, (g.1 a.2.2).2.1, .inr (.inr (.inr (.inr (va_up f n (some qv)))))))) ts vs V.2.2.2.1 := by
      intro f9 hf9
      obtain ⟨a9, j9, k9, e9, y9, w9, u1, u2, u3, u4, u5, u6, u7, u8⟩ := hv.2.2.1 f9 hf9
      by_cases ej : jj = j9
      · subst ej
        rw [he] at u2
        cases u2
        cases u7
      · exact ⟨a9, j9, k9, e9, y9, w9, u1, by rw [List.getElem?_set_ne ej]; exact u2, u3, u4.mono List.prefix_rfl hq List.prefix_rfl, u5, u6, u7, u8.mono List.prefix_rfl hq List.prefix_rfl⟩
    exact z_go (hN V L r cx os hgx hr3) hgx C hp2 ⟨hv.1, hv.2.1, hF2, hv.2.2.2.mono List.prefix_rfl hq List.prefix_rfl⟩ List.prefix_rfl (hL.mono List.prefix_rfl hq List.prefix_rfl) (z_Sr.mono List.prefix_rfl hq List.prefix_rfl hs3) hx hf rfl
theorem z_s_ret (hd : decode (q_b i) pc = .ok (.return_, ln)) (hk : q_lnk i pc ln (.return_) x y z) (hgx : z_gx cx) (hN : z_HN l base D sa g J ih d i (pc + ln) tl sp) (hr : z_step g q_code ih d i (q_code i) pc (.return_) x y z tl V L st sp cx = some os) : z_Ok l base D sa g J d i pc V L st cx os := by
  match st, hr with
  | _ :: _, hr => cases hr
  | [], hr =>
    have hr : some [(pc, V, L, ([] : List z_C))] = some os := hr
    have e9 := Option.some.inj hr
    subst e9
    intro p e s m args below meth c Q w0 t0 vs0 H locs ls sv ws tys ts vs C hp hv hL hs hx hf
    exact hf _ (List.mem_singleton.mpr rfl) H locs ls sv ws tys ts vs hp hv hL hs
theorem z_s_iret (hd : decode (q_b i) pc = .ok (.ireturn, ln)) (hk : q_lnk i pc ln (.ireturn) x y z) (hgx : z_gx cx) (hN : z_HN l base D sa g J ih d i (pc + ln) tl sp) (hr : z_step g q_code ih d i (q_code i) pc (.ireturn) x y z tl V L st sp cx = some os) : z_Ok l base D sa g J d i pc V L st cx os := by
  match st, hr with
  | [], hr => cases hr
  | _ :: _ :: _, hr => cases hr
  | [b], hr =>
    have hr : (bif Nat.beq b.1 0 && (Nat.beq x 0 || (Nat.beq x 1 && (z_po V b && Nat.ble (z_ih V b) 2147483649))) then some [(pc, V, L, [b])] else none) = some os := hr
    obtain ⟨h1, hr⟩ := q_bifs hr
    have e9 := Option.some.inj hr
    subst e9
    intro p e s m args below meth c Q w0 t0 vs0 H locs ls sv ws tys ts vs C hp hv hL hs hx hf
    exact hf _ (List.mem_singleton.mpr rfl) H locs ls sv ws tys ts vs hp hv hL hs
theorem z_s_aret (hd : decode (q_b i) pc = .ok (.areturn, ln)) (hk : q_lnk i pc ln (.areturn) x y z) (hgx : z_gx cx) (hN : z_HN l base D sa g J ih d i (pc + ln) tl sp) (hr : z_step g q_code ih d i (q_code i) pc (.areturn) x y z tl V L st sp cx = some os) : z_Ok l base D sa g J d i pc V L st cx os := by
  match st, hr with
  | [], hr => cases hr
  | _ :: _ :: _, hr => cases hr
  | [b], hr =>
    have hr : (bif Nat.beq b.1 1 then some [(pc, V, L, [b])] else none) = some os := hr
    obtain ⟨h1, hr⟩ := q_bifs hr
    have e9 := Option.some.inj hr
    subst e9
    intro p e s m args below meth c Q w0 t0 vs0 H locs ls sv ws tys ts vs C hp hv hL hs hx hf
    exact hf _ (List.mem_singleton.mpr rfl) H locs ls sv ws tys ts vs hp hv hL hs
end ZI
