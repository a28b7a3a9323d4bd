/-! ===== by hand: way ===== -/
section HR
variable {ws : va_W} {ts : List Nat} {fs : List Value} {k t n j a : Nat} {cA : ClassId} {f : Nat → Int32}
theorem h_row.set (h : h_row ws ts fs k t n j a cA f) {i u : Nat} {e : Nat × va_E} (hu : ts[i]? = some u) (hne : ¬ u = t) : h_row (ws.set i e) ts fs k t n j a cA f := ⟨h.1, h_getset h.2.1 (h_tne hu h.2.2 hne), h.2.2⟩
theorem h_row.fld (h : h_row ws ts fs k t n j a cA f) {q : Nat} {v : Value} (hq : ¬ q = k) : h_row ws ts (fs.set q v) k t n j a cA f := ⟨h_getset h.1 hq, h.2.1, h.2.2⟩
theorem h_row.self (h : h_row ws ts fs k t n j a cA f) (g : Nat → Int32) : h_row (ws.set j (a, .inl (cA, n, .inl g))) ts fs k t n j a cA g := ⟨h.1, List.getElem?_set_self (List.getElem?_eq_some_iff.mp h.2.1).1, h.2.2⟩
theorem h_bd.put {jm am b q : Nat} {fc fr : Nat → Int32} {v : Value} (h : h_bd ws ts jm am fs b fc fr) (h1 : ¬ q = 34) (h2 : ¬ q = 11) (h3 : ¬ q = 12) : h_bd (ws.set jm (am, .inr (9, fs.set q v))) ts jm am (fs.set q v) b fc fr := by
  obtain ⟨b1, b2, b3, b4, ⟨jc, ac, cA, c1, c2, c3⟩, jr, ar, cR, r1, r2, r3⟩ := h
  exact ⟨List.getElem?_set_self (List.getElem?_eq_some_iff.mp b1).1, b2, h_getset b3 h1, b4, ⟨jc, ac, cA, h_getset c1 h2, h_getset c2 (h_tne b2 c3 (by decide)), c3⟩, jr, ar, cR, h_getset r1 h3, h_getset r2 (h_tne b2 r3 (by decide)), r3⟩
/-- the model's object, as the typed world shows it -/
theorem h_objt {tys : List (ClassId × FieldType)} (hw : z_W z_tt ws tys ts) {jm am : Nat} (h1 : ws[jm]? = some (am, .inr (9, fs))) (h2 : ts[jm]? = some 40) : fs.length = (z_tt 40).2.2.1.length ∧ ∀ k v, fs[k]? = some v → z_tv (q_ad ws) ts (z_nth (z_tt 40).2.2.1 k) v := by
  obtain ⟨fs', o1, o2, o3⟩ := h_obj hw (h_ad h1) h2 rfl
  rw [h1] at o1
  have o1 : fs = fs' := congrArg Prod.snd (Sum.inr.inj (congrArg Prod.snd (Option.some.inj o1)))
  subst o1
  exact ⟨o2, o3⟩
end HR
/-- positions are on the board -/
def h_posJ (ws : va_W) (ts : List Nat) : Prop := ∀ (jm am b N ja aa : Nat) (fs : List Value) (fc fr al : Nat → Int32) (cA : ClassId), h_bd ws ts jm am fs b fc fr → h_row ws ts fs 41 66 438 ja aa cA al → fc b * fr b = nI N → N ≤ 25 → ∀ w, w < 5 → q_qb (al w) < 2147483648 + N
def h_bf (na b : Nat) : List (Nat × Nat × z_C) := [(0, 34, (0, 2147483648 + b, 2147483648 + b)), (0, 11, (1, 49, 0)), (na + 1, b, (0, 2147483650, 2147483653))]
def h_kway : List z_C := [(40, 2147483696, 2147483696), (68, 2147483648, 2147483672), (69, 2147483648, 2147483672), (70, 2147483648, 2147483673)]
def h_Mway (b : Nat) : z_M := (123, [(1, 40, 0), (0, 0, 4294967295), (0, 0, 4294967295)], h_bf 3 b, h_kway, 0, 4, true, [(0, 0, 4294967295)], [])
theorem h_ta3 {ad ts : List Nat} {t u w : z_C} {av : List Value} (h : z_Ta ad ts [t, u, w] av) : ∃ x y z, av = [x, y, z] ∧ z_tv ad ts t x ∧ z_tv ad ts u y ∧ z_tv ad ts w z := by
  match av, h with
  | [x, y, z], h => exact ⟨x, y, z, rfl, h.1, h.2.1, h.2.2.1⟩
theorem h_ta4 {ad ts : List Nat} {t u w s : z_C} {av : List Value} (h : z_Ta ad ts [t, u, w, s] av) : ∃ x y z v, av = [x, y, z, v] ∧ z_tv ad ts t x ∧ z_tv ad ts u y ∧ z_tv ad ts w z ∧ z_tv ad ts s v := by
  match av, h with
  | [x, y, z, v], h => exact ⟨x, y, z, v, rfl, h.1, h.2.1, h.2.2.1, h.2.2.2.1⟩
/-- who is a walker is below five -/
theorem h_walker {w u : Int32} (hu : q_qb u ≤ 2147483653) (hu0 : 2147483648 ≤ q_qb u) (h : h_in w (nI 0) (u - nI 1) = 1) : ∃ k, k < 5 ∧ w = nI k := by
  unfold h_in at h
  split at h
  · rename_i hh
    have h1 := (q_le_iff _ _).mp hh.1
    have h2 := (q_le_iff _ _).mp hh.2
    have h3 := z_qsub (x := u) (y := nI 1) (by rw [z_qnI (by decide)]; omega) (by rw [z_qnI (by decide)]; omega)
    rw [z_qnI (by decide)] at h1 h3
    obtain ⟨k, k1, k2, k3⟩ := z_nat (x := w) (by omega)
    exact ⟨k, by omega, k2⟩
  · cases h
theorem h_wrm {kw : List z_C} {t lo hi q : Nat} (h : (t, lo, hi) ∈ kw) (h1 : lo ≤ 2147483648 + q) (h2 : 2147483648 + q ≤ hi) : z_wr kw t q := z_kw_iff.mpr ⟨_, h, rfl, h1, h2⟩
/-- a list of kills is within another -/
theorem h_wsub {kc kw : List z_C} (h : ∀ e ∈ kc, e ∈ kw) : ∀ t q, z_wr kc t q → z_wr kw t q := fun t q hq => by
  obtain ⟨e, e1, e2, e3, e4⟩ := z_kw_iff.mp hq
  exact z_kw_iff.mpr ⟨e, h e e1, e2, e3, e4⟩
theorem h_b25 {f : Nat → Int32} {n lo hi : Nat} (hn : 0 < n) (h : ∀ q, q < n → (z_el [(n, lo, hi)] (q % n)).1 ≤ q_qb (f q) ∧ q_qb (f q) ≤ (z_el [(n, lo, hi)] (q % n)).2) : ∀ q, q < n → lo ≤ q_qb (f q) ∧ q_qb (f q) ≤ hi := fun q hq => by
  have := h q hq
  rw [h_el25 q hn] at this
  exact this
section HY
variable {l : Launch} {base : Nat} {D : va_G} {sa : Nat → Nat} {J : va_W → List Nat → Prop}
theorem h_con_way (hok : ∀ i, i < q_nM → q_mok i) (hcl : q_clok) (hJ : ∀ ws ts, J ws ts → h_posJ ws ts) {b : Nat} (hb2 : b < 2) : z_Con l base D sa z_tt J (h_Mway b) := by
  intro ws ts av bv ha hf hj
  obtain ⟨vm, vw, vc, rfl, hvm, hvw, hvc⟩ := h_ta3 ha
  obtain ⟨jm, am, rfl, hm1, hm2⟩ := h_rt hvm
  obtain ⟨w, rfl, -⟩ := h_tvi hvw
  obtain ⟨to, rfl, -⟩ := h_tvi hvc
  refine z_ofW (fun tys hw hD => ?_)
  obtain ⟨fs, fc, fr, N, hbd, hlen, htv, hNe, hN, hne⟩ := h_bank hw hD hb2 hm1 hm2 rfl rfl hf
  have hlen : fs.length = 68 := hlen
  obtain ⟨ju, au, cU, fu, u1, u2, u3, u4⟩ := h_fa hw hlen htv (k := 16) (t := 51) (u := 0) (by decide) rfl rfl
  obtain ⟨jh, ah, cH, fh, k1, k2, k3, -⟩ := h_fa hw hlen htv (k := 15) (t := 45) (u := 0) (by decide) rfl rfl
  obtain ⟨jw, aw, cW, w0, w1, w2, w3, -⟩ := h_fa hw hlen htv (k := 46) (t := 69) (u := 0) (by decide) rfl rfl
  obtain ⟨jl, aL, cL, q0, q1, q2, q3, -⟩ := h_fa hw hlen htv (k := 47) (t := 70) (u := 0) (by decide) rfl rfl
  obtain ⟨ja, aa, cB, al, g1, g2, g3, g4⟩ := h_fa hw hlen htv (k := 41) (t := 66) (u := 0) (by decide) rfl rfl
  have hu : h_row ws ts fs 16 51 2 ju au cU fu := ⟨u1, u2, u3⟩
  have hh : h_row ws ts fs 15 45 2 jh ah cH fh := ⟨k1, k2, k3⟩
  have hwr : h_row ws ts fs 46 69 25 jw aw cW w0 := ⟨w1, w2, w3⟩
  have hlr : h_row ws ts fs 47 70 26 jl aL cL q0 := ⟨q1, q2, q3⟩
  have har : h_row ws ts fs 41 66 438 ja aa cB al := ⟨g1, g2, g3⟩
  have hub := h_b25 (by decide) u4 b hb2
  have hpos := hJ ws ts hj jm am b N ja aa fs fc fr al cB hbd har hNe hN
  have hal : ∀ k, k < 5 → 2147483648 ≤ q_qb (al k) := fun k hk => by
    have := (g4 k (show k < 438 by omega)).1
    have e : (z_el (z_tt 66).2.2.1 (k % (z_tt 66).2.2.2.1)).1 = 2147483648 := by
      rcases (show k = 0 ∨ k = 1 ∨ k = 2 ∨ k = 3 ∨ k = 4 by omega) with rfl | rfl | rfl | rfl | rfl <;> rfl
    rw [e] at this
    exact this
  clear g4 u4 hw hD
  refine y_meth (J := fun _ _ => True) (hok 123 (by decide)) (fun v hv => by
    rcases List.mem_cons.mp hv with rfl | hv
    · rfl
    rcases List.mem_cons.mp hv with rfl | hv
    · rfl
    rcases List.mem_singleton.mp hv with rfl
    rfl) (show 3 ≤ 3 by decide) (fun _ _ _ => trivial) ?_
  intro p e s m below meth c X hX hC hQ
  have hi : y_i X = 123 := by rw [hX]; rfl
  have htt : y_tt X = z_tt := by rw [hX]
  have hkw : y_kw X = h_kway := by rw [hX]; rfl
  have hd : y_d X = (4, 0) := by rw [hX]; rfl
  clear hX
  have E := y_Ei hok hi (by decide) (cd := q_cd123) rfl
  have hn : (0 : Nat) ≤ (y_d X).2 := Nat.zero_le _
  have dp : ∀ k, k ≤ 4 → k ≤ (y_d X).1 := fun k hk => by rw [hd]; exact hk
  have ret : ∀ (ws' : va_W) (ts' : List Nat) (x : Int32), z_CP (h_Mway b) bv (some (.int x)) ws' ts' := fun ws' ts' x => h_cp1 rfl rfl (List.mem_singleton.mpr rfl) (h_tint _ _ x)
  show Y X 0 0 [some (.ref am), some (.int w), some (.int to)] [] ws ts
  refine y_aln hC (E 0 _ rfl) rfl ?_
  refine y_ic hC (E 1 _ rfl) ?_
  refine y_put hcl hC (E 2 _ rfl) hbd.1 hm2 (by rw [htt]; rfl) ?_ (by omega) (by rw [hkw]; exact h_wrm List.mem_cons_self (by decide) (by decide)) (Or.inl ⟨rfl, _, rfl⟩) ?_
  · rw [htt]
    show z_tv _ ts (0, 2147483648, 2147483674) _
    exact h_tvn (by decide) (by decide) (by decide)
  have hbd1 := hbd.put (q := 48) (v := .int (nI 0)) (by decide) (by decide) (by decide)
  have mv : ∀ {k t n j a : Nat} {cA : ClassId} {f : Nat → Int32}, h_row ws ts fs k t n j a cA f → ¬ 48 = k → ¬ 40 = t → h_row (ws.set jm (am, .inr (9, fs.set 48 (.int (nI 0))))) ts (fs.set 48 (.int (nI 0))) k t n j a cA f := fun h h1 h2 => (h.set hm2 h2).fld h1
  have hu1 := mv hu (by decide) (by decide)
  have hh1 := mv hh (by decide) (by decide)
  have hw1 := mv hwr (by decide) (by decide)
  have hl1 := mv hlr (by decide) (by decide)
  have ha1 := mv har (by decide) (by decide)
  have hlen1 : (fs.set 48 (.int (nI 0))).length = 68 := by rw [List.length_set]; exact hlen
  clear mv hu hh hwr hlr har hbd hlen htv hm1 u1 u2 k1 k2 w1 w2 q1 q2 g1 g2 hvm hf ha hj hvw hvc
  generalize fs.set 48 (.int (nI 0)) = fs1 at hbd1 hu1 hh1 hw1 hl1 ha1 hlen1
  generalize ws.set jm (am, .inr (9, fs1)) = ws1 at hbd1 hu1 hh1 hw1 hl1 ha1
  refine y_aln hC (E 3 _ rfl) rfl ?_
  refine y_iln hC (E 4 _ rfl) rfl ?_
  refine y_virq hok hC (E 5 _ rfl) (by decide) (As := [.int w]) (rv := []) (by rw [htt]; exact h_m_iswalker hok hcl hbd1 hu1 w) hbd1.1 rfl rfl (dp 2 (by decide)) hn h_cat0 ?_
  have bad : Y X 0 21 [some (.ref am), some (.int w), some (.int to)] [] ws1 ts := by
    refine y_ic hC (E 11 _ rfl) ?_
    exact y_ir hC hQ (E 12 _ rfl) hn (ret _ _ _)
  refine y_if hC (E 6 _ rfl) (fun _ => bad) (fun h => ?_)
  rcases h_nI01 (h_in_lt w (nI 0) (fu b - nI 1)) with ⟨g, _⟩ | ⟨_, hwi⟩
  · exact absurd g h
  obtain ⟨wk, hwk, rfl⟩ := h_walker hub.2 hub.1 hwi
  refine y_aln hC (E 7 _ rfl) rfl ?_
  refine y_iln hC (E 8 _ rfl) rfl ?_
  refine y_virq hok hC (E 9 _ rfl) (by decide) (As := [.int to]) (rv := []) (by rw [htt]; exact h_m_isfree hok hcl hbd1 hh1 to) hbd1.1 rfl rfl (dp 3 (by decide)) hn h_cat0 ?_
  refine y_if hC (E 10 _ rfl) (fun _ => ?_) (fun _ => bad)
  refine y_aln hC (E 13 _ rfl) rfl ?_
  refine y_vir hok hC (E 14 _ rfl) (by decide) (As := []) (rv := []) (dd := (0, 0)) (by rw [htt]; exact h_m_weigh hok hcl hbd1.1 hm2 hw1) hbd1.1 rfl rfl (dp 1 (by decide)) hn h_cat0 (by rw [hkw]; exact h_wsub (fun e he => by rcases List.mem_singleton.mp he with rfl; decide)) (fun v ws' ts' _ hp => ?_)
  obtain ⟨rfl, rfl, w9, rfl, hw9⟩ := hp
  have hbd2 := hbd1.set (e := (aw, .inl (cW, 25, .inl w9))) w3 (by decide) (by decide) (by decide)
  have hh2 := hh1.set (e := (aw, .inl (cW, 25, .inl w9))) w3 (by decide)
  have hl2 := hl1.set (e := (aw, .inl (cW, 25, .inl w9))) w3 (by decide)
  have ha2 := ha1.set (e := (aw, .inl (cW, 25, .inl w9))) w3 (by decide)
  have hw2 := hw1.self w9
  clear hbd1 hu1 hh1 hw1 hl1 ha1 bad
  generalize ws1.set jw (aw, .inl (cW, 25, .inl w9)) = ws2 at hbd2 hh2 hl2 ha2 hw2
  show Y X 0 27 [some (.ref am), some (.int (nI wk)), some (.int to)] [] ws2 ts'
  refine y_ty (fun tys2 hW2 hD2 => ?_)
  rw [htt] at hW2
  obtain ⟨hl9, ht9⟩ := h_objt hW2 hbd2.1 hbd2.2.1
  refine y_aln hC (E 15 _ rfl) rfl ?_
  refine y_iln hC (E 16 _ rfl) rfl ?_
  refine y_aln hC (E 17 _ rfl) rfl ?_
  refine y_get hcl hC (E 18 _ rfl) hbd2.1 hh2.1 ?_
  refine y_aln hC (E 19 _ rfl) rfl ?_
  refine y_get hcl hC (E 20 _ rfl) hbd2.1 hbd2.2.2.1 ?_
  refine y_ald hC (E 21 _ rfl) hh2.2.1 hh2.2.2 (by rw [htt]; rfl) hb2 (by decide) ?_
  refine y_vir hok hC (E 22 _ rfl) (by decide) (As := [.int to, .int (fh b)]) (rv := []) (dd := (3, 0)) (by rw [htt]; exact h_m_lay hok hcl hbd2 hl9 ht9 hNe hN hne to (fh b)) hbd2.1 rfl rfl (dp 4 (by decide)) hn h_cat0 (by rw [hkw]; exact h_wsub (fun e he => by rcases List.mem_singleton.mp he with rfl; decide)) (fun v ws' ts' _ hp => ?_)
  obtain ⟨rfl, rfl, jf, af, cA, f, jw', aw', cW', w', rfl, p1, ⟨f0, p2⟩, p3, p4, p5, p6, hinv, hall⟩ := hp
  have ew : jw' = jw ∧ aw' = aw ∧ cW' = cW ∧ w' = w9 := by
    have e1 : aw' = aw := by
      have := p4.symm.trans hw2.1
      cases this
      rfl
    subst e1
    obtain ⟨e2, e3⟩ := h_same hD2 p5 hw2.2.1
    cases e3
    exact ⟨e2, rfl, rfl, rfl⟩
  obtain ⟨rfl, rfl, rfl, rfl⟩ := ew
  have hfr : h_row (h_wf ws2 jf af cA f) ts' fs1 45 68 25 jf af cA f := ⟨p1, List.getElem?_set_self (List.getElem?_eq_some_iff.mp p2).1, p3⟩
  have hbd3 : h_bd (h_wf ws2 jf af cA f) ts' jm am fs1 b fc fr := hbd2.set p3 (by decide) (by decide) (by decide)
  have hh3 : h_row (h_wf ws2 jf af cA f) ts' fs1 15 45 2 jh ah cH fh := hh2.set p3 (by decide)
  have hl3 : h_row (h_wf ws2 jf af cA f) ts' fs1 47 70 26 jl aL cL q0 := hl2.set p3 (by decide)
  have ha3 : h_row (h_wf ws2 jf af cA f) ts' fs1 41 66 438 ja aa cB al := ha2.set p3 (by decide)
  have hw3 : h_row (h_wf ws2 jf af cA f) ts' fs1 46 69 25 jw' aw' cW' w' := hw2.set p3 (by decide)
  clear hbd2 hh2 hl2 ha2 hw2 p1 p2 p4 p5
  generalize h_wf ws2 jf af cA f = ws3 at hfr hbd3 hh3 hl3 ha3 hw3
  show Y X 0 41 [some (.ref am), some (.int (nI wk)), some (.int to)] [] ws3 ts'
  obtain ⟨c0, m1, m2, m3⟩ := z_nat (x := al wk) (hal wk hwk)
  have hc0 : c0 < N := by
    have := hpos wk hwk
    omega
  refine y_aln hC (E 23 _ rfl) rfl ?_
  refine y_get hcl hC (E 24 _ rfl) hbd3.1 hfr.1 ?_
  refine y_aln hC (E 25 _ rfl) rfl ?_
  refine y_get hcl hC (E 26 _ rfl) hbd3.1 ha3.1 ?_
  refine y_ic hC (E 27 _ rfl) ?_
  refine y_iln hC (E 28 _ rfl) rfl ?_
  refine y_add hC (E 29 _ rfl) ?_
  rw [nI_add, Nat.zero_add]
  refine y_ald hC (E 30 _ rfl) ha3.2.1 ha3.2.2 (by rw [htt]; rfl) (show wk < 438 by omega) (by decide) ?_
  rw [m2]
  refine y_ald hC (E 31 _ rfl) hfr.2.1 hfr.2.2 (by rw [htt]; rfl) (show c0 < 25 by omega) (by decide) ?_
  refine y_sp hC (E 32 _ rfl) ?_
  refine y_cmp hC (E 33 _ rfl) (fun h => ?_) (fun _ => ?_)
  · have h : ¬ f c0 = nI 10000 := h
    have hf0 : q_qb (f c0) < 2147493648 := by
      have g1 := (hinv.2 c0 hc0).1
      have g2 : ¬ q_qb (f c0) = 2147493648 := fun e => h (by rw [q_eq_iff, z_qnI (by decide)]; exact e)
      omega
    refine y_aln hC (E 36 _ rfl) rfl ?_
    refine y_aln hC (E 37 _ rfl) rfl ?_
    refine y_get hcl hC (E 38 _ rfl) hbd3.1 ha3.1 ?_
    refine y_ic hC (E 39 _ rfl) ?_
    refine y_iln hC (E 40 _ rfl) rfl ?_
    refine y_add hC (E 41 _ rfl) ?_
    rw [nI_add, Nat.zero_add]
    refine y_ald hC (E 42 _ rfl) ha3.2.1 ha3.2.2 (by rw [htt]; rfl) (show wk < 438 by omega) (by decide) ?_
    rw [m2]
    refine y_iln hC (E 43 _ rfl) rfl ?_
    refine y_vir hok hC (E 44 _ rfl) (by decide) (As := [.int (nI c0), .int to]) (rv := []) (dd := (3, 0)) (by rw [htt]; exact h_m_show hok hcl hbd3 hlen1 hfr hw3 hl3 hh3 (fun k hk => by rw [hw9 k (by omega), z_qnI (by decide)]; decide) hN hne hinv hall hc0 hf0) hbd3.1 rfl rfl (dp 4 (by decide)) hn h_cat0 (by rw [hkw]; exact h_wsub (fun e he => by
      rcases List.mem_cons.mp he with rfl | he
      · decide
      · rcases List.mem_singleton.mp he with rfl
        decide)) (fun v ws' ts' _ hp => ?_)
    obtain ⟨rfl, rfl, q, r, -, -, rfl⟩ := hp
    have o1 : (h_w2 ws3 jm am jl aL fs1 cL q r)[jm]? = some (am, .inr (9, fs1.set 48 (.int (nI r)))) := List.getElem?_set_self (by rw [List.length_set]; exact (List.getElem?_eq_some_iff.mp hbd3.1).1)
    show Y X 0 75 [some (.ref am), some (.int (nI wk)), some (.int to)] [] _ ts'
    refine y_aln hC (E 45 _ rfl) rfl ?_
    refine y_get hcl hC (E 46 _ rfl) o1 (List.getElem?_set_self (by omega)) ?_
    refine y_ic hC (E 47 _ rfl) ?_
    refine y_sub hC (E 48 _ rfl) ?_
    exact y_ir hC hQ (E 49 _ rfl) hn (ret _ _ _)
  · refine y_ic hC (E 34 _ rfl) ?_
    exact y_ir hC hQ (E 35 _ rfl) hn (ret _ _ _)
end HY
