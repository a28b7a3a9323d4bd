/-! ===== by hand: image, back ===== -/
section YZ
variable {X : y_X} {n pc ln x y z : Nat} {L : List (Option Value)} {st : List Value} {ws : va_W} {ts : List Nat} {a : Nat}
theorem y_wk {L' : List (Option Value)} (hl : L'.length = L.length) (h : ∀ (k : Nat) (v : Value), L'[k]? = some (some v) → L[k]? = some (some v)) (k : Y X n pc L' st ws ts) : Y X n pc L st ws ts := fun H locs ls tys hp hL => k H locs ls tys hp ⟨by rw [hl]; exact hL.1, by
  obtain ⟨lv, l1, l2, l3⟩ := hL.2
  exact ⟨lv, l1, l2, fun k v hk => l3 k v (h k v hk)⟩⟩
theorem y_zald {j t N q : Nat} {cA : ClassId} {f : Nat → Int32} (hC : y_C X) (E : y_E (y_i X) (pc, ln, .baload, x, y, z)) (he : ws[j]? = some (a, .inl (cA, N, .inl f))) (ht : ts[j]? = some t) (h1 : (y_tt X t).1 = 5) (hq : q < N) (hN : N < 2147483648) (k : Y X n (pc + ln) L (.int (f q) :: st) ws ts) : Y X n pc L (.int (nI q) :: .ref a :: st) ws ts := by
  intro H locs ls tys hp hL
  obtain ⟨hd, e1, -⟩ := E
  have e1 : ln = 1 := e1
  subst e1
  obtain ⟨en, he2, hc⟩ := hp.1.cell (show (q_ad ws)[j]? = some a by rw [List.getElem?_map, he]; rfl) ht
  rw [he] at he2
  cases he2
  obtain ⟨cA2, t2, f2, e9, h2, h3⟩ := hc.bools h1
  cases e9
  have ec : (nI q).toNatClampNeg = q := nI_clamp (by omega)
  have := va_zald (p := y_p X) (l := y_l X) (e := y_e X) (R := q_rm (y_d X).1 (9 * (y_d X).2) (446 * (y_d X).2)) (s := y_s X) (m := y_m X) (args := y_a X) (below := y_w X) (meth := y_me X) (c := y_c X) (cells := 9 * n) (slots := 446 * n) (Q := y_Q X) (ls := ls) (rest := st) hC.1.1 hC.1.2.1 hp.2.2.1 hp.2.1 j t2 he h2 (vp_in_nI hq (by omega)) hd (by rw [ec]; exact k H locs ls tys hp hL)
  exact this
theorem y_zast {j t N q b : Nat} {cA : ClassId} {f : Nat → Int32} (hC : y_C X) (E : y_E (y_i X) (pc, ln, .bastore, x, y, z)) (he : ws[j]? = some (a, .inl (cA, N, .inl f))) (ht : ts[j]? = some t) (h1 : (y_tt X t).1 = 5) (hq : q < N) (hN : N < 2147483648) (hb2 : b < 2) (hb : (z_el (y_tt X t).2.2.1 (q % (y_tt X t).2.2.2.1)).1 ≤ q_qb (nI b) ∧ q_qb (nI b) ≤ (z_el (y_tt X t).2.2.1 (q % (y_tt X t).2.2.2.1)).2) (hw : z_wr (y_kw X) t q) (k : Y X n (pc + ln) L st (ws.set j (a, .inl (cA, N, .inl (upd f q (nI b))))) ts) : Y X n pc L (.int (nI b) :: .int (nI q) :: .ref a :: st) ws ts := by
  intro H locs ls tys hp hL
  obtain ⟨hd, e1, -⟩ := E
  have e1 : ln = 1 := e1
  subst e1
  obtain ⟨en, he2, hc⟩ := hp.1.cell (show (q_ad ws)[j]? = some a by rw [List.getElem?_map, he]; rfl) ht
  rw [he] at he2
  cases he2
  obtain ⟨cA2, t2, f2, e9, h2, h3⟩ := hc.bools h1
  cases e9
  have ec : (nI q).toNatClampNeg = q := nI_clamp (by omega)
  have en : vp_nar .boolean (nI b) = nI b := by
    rcases (show b = 0 ∨ b = 1 by omega) with rfl | rfl <;> decide +kernel
  have hc2 : z_cell (q_ad ws) ts tys (y_tt X t) (.inl (cA, (y_tt X t).2.1, .inl (upd f q (nI b)))) := Or.inr (Or.inr (Or.inr (Or.inl ⟨h1, cA, t2, _, rfl, h2, fun k hk => by
    by_cases ek : k = q
    · subst ek
      rw [pk_us]
      exact hb
    · rw [pk_un ek]
      exact h3 k hk⟩)))
  refine va_zast hC.1.1 hC.1.2.1 hp.2.2.1 hp.2.1 hp.2.2.2.1 hp.2.2.2.2.1 j t2 he h2 (vp_in_nI hq (by omega)) hd (fun H1 locs1 hP1 hD1 hS1 => ?_)
  rw [ec, en] at hP1 hD1
  exact k H1 locs1 ls tys (hp.set he ht hc2 (fun k v hk hnw => z_upd_in hk (fun e9 => hnw (by rw [e9]; exact hw))) hP1 hD1 hS1) hL
end YZ
/-- who is between two told numbers -/
theorem h_in_nat {v : Int32} {n : Nat} (hn : n < 2147483648) (h : h_in v (nI 0) (nI n) = 1) : ∃ k, k ≤ n ∧ v = nI k := by
  unfold h_in at h
  split at h
  · rename_i hh
    have h1 := (q_le_iff _ _).mp hh.1
    have h2 := (q_le_iff _ _).mp hh.2
    rw [z_qnI (by decide)] at h1
    rw [z_qnI hn] at h2
    obtain ⟨k, k1, k2, k3⟩ := z_nat (x := v) (by omega)
    exact ⟨k, by omega, k2⟩
  · cases h
def h_kimg : List z_C := [(86, 2147483648, 2147484961), (87, 2147483648, 2147483650)]
def h_kback : List z_C := [(66, 2147483648, 2147484085), (40, 2147483691, 2147483692)]
section HK
variable {l : Launch} {base : Nat} {D : va_G} {sa : Nat → Nat} {ws : va_W} {ts : List Nat}
theorem h_m_image (hok : ∀ i, i < q_nM → q_mok i) (hcl : q_clok) {jm am : Nat} (hm1 : (q_ad ws)[jm]? = some am) (hj : h_Jp jm ws ts) (x : Int32) : z_Met l base D sa z_tt h_kimg (1, 0) 68 [.ref am, .int x] ws ts (h_pv (h_Jp jm)) := by
  refine z_ofW (fun tys hw hD => ?_)
  obtain ⟨b, N, A, U, j1, j2, j3, j4, j5, j6⟩ := id hj
  have hm2 := j1.1
  obtain ⟨fs, o1, o2, o3⟩ := h_obj hw hm1 hm2 rfl
  have o1 : ws[jm]? = some (am, .inr (9, fs)) := o1
  have o2 : fs.length = 68 := o2
  obtain ⟨ja, aa, a1, a2⟩ := id j3
  obtain ⟨jx, ax, ji, ai, x1, x2, x3⟩ := j5
  obtain ⟨cA, fa, ra⟩ := a1.see hw o1 rfl
  obtain ⟨cW, fx, rx⟩ := x1.see hw o1 rfl
  obtain ⟨cI, fi, ri⟩ := x2.see5 hw o1 rfl
  have ra : h_row ws ts fs 41 66 438 ja aa cA fa := ra
  have rx : h_row ws ts fs 66 86 1314 jx ax cW fx := rx
  have ri : h_row ws ts fs 67 87 3 ji ai cI fi := ri
  have ga : ∀ w, (w < 5 ∨ w = 435) → q_qb (fa w) < 2147483648 + h_bn N w := fun w hw => ra.lt (by omega) (a2 w hw)
  have gx : ∀ c, c < 3 → fi c = nI 1 → ∀ w, (w < 5 ∨ w = 435) → q_qb (fx (438 * c + w)) < 2147483648 + h_bn N w := fun c hc e w hw => by
    obtain ⟨y, y1, y2⟩ := x3 c hc
    exact rx.lt (by omega) (y2 ((ri.at hc y1).trans e) w hw)
  have njm : ¬ jx = jm := h_tne rx.2.2 hm2 (by decide)
  have nja : ¬ jx = ja := h_tne rx.2.2 ra.2.2 (by decide)
  have nji : ¬ jx = ji := h_tne rx.2.2 ri.2.2 (by decide)
  have nim : ¬ ji = jm := h_tne ri.2.2 hm2 (by decide)
  have nia : ¬ ji = ja := h_tne ri.2.2 ra.2.2 (by decide)
  clear hw hD
  refine y_meth (J := fun _ _ => True) (hok 68 (by decide)) (fun v hv => by
    rcases List.mem_cons.mp hv with rfl | hv
    · rfl
    rcases List.mem_singleton.mp hv with rfl
    rfl) (show 2 ≤ 3 by decide) (fun _ _ _ => trivial) ?_
  intro p e s m below meth c X hX hC hQ
  have hi : y_i X = 68 := by rw [hX]
  have htt : y_tt X = z_tt := by rw [hX]
  have hkw : y_kw X = h_kimg := by rw [hX]
  have hw0 : y_w0 X = ws := by rw [hX]
  have ht0 : y_t0 X = ts := by rw [hX]
  have hl : y_l X = l ∧ y_b X = base ∧ y_D X = D ∧ y_sa X = sa := by rw [hX]; exact ⟨rfl, rfl, rfl, rfl⟩
  have hd : y_d X = (1, 0) := by rw [hX]
  clear hX
  obtain ⟨rfl, rfl, rfl, rfl⟩ := hl
  have E := y_Ei hok hi (by decide) (cd := q_cd68) rfl
  have hn : (0 : Nat) ≤ (y_d X).2 := Nat.zero_le _
  have hwx : ∀ q, q < 1314 → z_wr (y_kw X) 86 q := fun q hq => by rw [hkw]; exact h_wrm List.mem_cons_self (by omega) (by omega)
  have hwi : ∀ q, q < 3 → z_wr (y_kw X) 87 q := fun q hq => by rw [hkw]; exact h_wrm (List.mem_cons_of_mem _ (List.mem_singleton.mpr rfl)) (by omega) (by omega)
  have lx := (List.getElem?_eq_some_iff.mp rx.2.1).1
  have li := (List.getElem?_eq_some_iff.mp ri.2.1).1
  have loop : ∀ (m c k : Nat) (f : Nat → Int32), 438 - c = m → c ≤ 438 → k < 3 → (∀ q, q < 438 * k ∨ 438 * k + 438 ≤ q → f q = fx q) → (∀ w, (w < 5 ∨ w = 435) → w < c → q_qb (f (438 * k + w)) < 2147483648 + h_bn N w) → Y X 0 13 [some (.ref am), some (.int (nI k)), some (.int (nI c))] [] (ws.set jx (ax, .inl (cW, 1314, .inl f))) ts := by
    intro m
    induction m with
    | zero =>
      intro c k f hm hc hk hf hf2
      have e : c = 438 := by omega
      subst e
      have qm : (ws.set jx (ax, .inl (cW, 1314, .inl f)))[jm]? = some (am, .inr (9, fs)) := h_getset o1 njm
      have qa : (ws.set jx (ax, .inl (cW, 1314, .inl f)))[ja]? = _ := h_getset ra.2.1 nja
      have qi : (ws.set jx (ax, .inl (cW, 1314, .inl f)))[ji]? = _ := h_getset ri.2.1 nji
      refine y_iln hC (E 9 _ rfl) rfl ?_
      refine y_sp hC (E 10 _ rfl) ?_
      refine y_cmp hC (E 11 _ rfl) (fun _ => ?_) (fun h => ?_)
      · refine y_aln hC (E 26 _ rfl) rfl ?_
        refine y_get hcl hC (E 27 _ rfl) qm ri.1 ?_
        refine y_iln hC (E 28 _ rfl) rfl ?_
        refine y_ic hC (E 29 _ rfl) ?_
        refine y_zast hC (E 30 _ rfl) qi ri.2.2 (by rw [htt]; rfl) hk (by decide) (by decide) ?_ (hwi k hk) ?_
        · rw [htt]
          show (z_el [(3, 2147483648, 2147483649)] (k % 3)).1 ≤ _ ∧ _ ≤ (z_el [(3, 2147483648, 2147483649)] (k % 3)).2
          rw [h_el25 k (by decide), z_qnI (by decide)]
          decide
        have pm := h_getset (y := (ai, (.inl (cI, 3, .inl (upd fi k (nI 1))) : va_E))) qm nim
        have pa := h_getset (y := (ai, (.inl (cI, 3, .inl (upd fi k (nI 1))) : va_E))) qa nia
        refine y_aln hC (E 31 _ rfl) rfl ?_
        refine y_get hcl hC (E 32 _ rfl) pm ra.1 ?_
        refine y_sp hC (E 33 _ rfl) ?_
        refine y_ald hC (E 34 _ rfl) pa ra.2.2 (by rw [htt]; rfl) (show 435 < 438 by decide) (by decide) ?_
        refine y_tyJ hC (fun tys hw hD _ hF => ?_)
        rw [hkw, hw0, ht0] at hF
        have rx9 : h_row ((ws.set jx (ax, .inl (cW, 1314, .inl f))).set ji (ai, .inl (cI, 3, .inl (upd fi k (nI 1))))) ts fs 66 86 1314 jx ax cW f := ⟨rx.1, h_getset (List.getElem?_set_self lx) (fun e => nji e.symm), rx.2.2⟩
        have ri9 : h_row ((ws.set jx (ax, .inl (cW, 1314, .inl f))).set ji (ai, .inl (cI, 3, .inl (upd fi k (nI 1))))) ts fs 67 87 3 ji ai cI (upd fi k (nI 1)) := ⟨ri.1, List.getElem?_set_self (by rw [List.length_set]; exact li), ri.2.2⟩
        refine y_ir hC hQ (E 35 _ rfl) hn ⟨⟨_, rfl⟩, b, N, A, U, ?_, ?_, ?_, ?_, ⟨jx, ax, ji, ai, rx9.px pm, ri9.px pm, fun c hc => ⟨upd fi k (nI 1) c, ri9.pl hc, fun e5 w5 hw5 => rx9.mk (by omega) ?_⟩⟩, ?_⟩
        · exact j1.fr hF (h_nots rfl _) (h_nots rfl _) (h_nots rfl _) (h_nots rfl _) (h_nots rfl _)
        · exact j2.fr hF hm2 (h_nots rfl _) (h_nots rfl _)
        · exact j3.fr hF hm2 (h_nots rfl _) (fun _ _ => h_nots rfl _)
        · exact j4.fr hF hm2 (h_nots rfl _) (h_nots rfl)
        · by_cases ek : c = k
          · subst ek
            exact hf2 w5 hw5 (by omega)
          · rw [pk_un ek] at e5
            rw [hf _ (by omega)]
            exact gx c hc e5 w5 hw5
        · exact j6.fr hF hm2 (h_nots rfl _) (h_nots rfl _) (h_nots rfl _) (fun w _ => h_nots rfl _)
      · exact absurd h (nI_nlt (Nat.le_refl _) (by omega))
    | succ m IH =>
      intro c k f hm hc hk hf hf2
      have hlt : c < 438 := by omega
      have qm : (ws.set jx (ax, .inl (cW, 1314, .inl f)))[jm]? = some (am, .inr (9, fs)) := h_getset o1 njm
      have qa : (ws.set jx (ax, .inl (cW, 1314, .inl f)))[ja]? = _ := h_getset ra.2.1 nja
      refine y_iln hC (E 9 _ rfl) rfl ?_
      refine y_sp hC (E 10 _ rfl) ?_
      refine y_cmp hC (E 11 _ rfl) (fun h => ?_) (fun _ => ?_)
      · exact absurd h (nI_ge hlt (by omega))
      refine y_ty (fun tys hw hD => ?_)
      rw [htt] at hw
      have ty := h_typ hw qa ra.2.2 rfl c hlt
      refine y_aln hC (E 12 _ rfl) rfl ?_
      refine y_get hcl hC (E 13 _ rfl) qm rx.1 ?_
      refine y_sp hC (E 14 _ rfl) ?_
      refine y_iln hC (E 15 _ rfl) rfl ?_
      refine y_mul hC (E 16 _ rfl) ?_
      rw [h_nmul]
      refine y_iln hC (E 17 _ rfl) rfl ?_
      refine y_add hC (E 18 _ rfl) ?_
      rw [nI_add]
      refine y_aln hC (E 19 _ rfl) rfl ?_
      refine y_get hcl hC (E 20 _ rfl) qm ra.1 ?_
      refine y_iln hC (E 21 _ rfl) rfl ?_
      refine y_ald hC (E 22 _ rfl) qa ra.2.2 (by rw [htt]; rfl) hlt (by decide) ?_
      refine y_ast hC (E 23 _ rfl) (List.getElem?_set_self lx) rx.2.2 (by rw [htt]; rfl) (show 438 * k + c < 1314 by omega) (by decide) ?_ (hwx _ (by omega)) ?_
      · rw [htt]
        have e9 : (438 * k + c) % 438 = c % 438 := Nat.mul_add_mod 438 k c
        show (z_el (z_tt 67).2.2.1 ((438 * k + c) % 438)).1 ≤ _ ∧ _ ≤ (z_el (z_tt 67).2.2.1 ((438 * k + c) % 438)).2
        rw [e9]
        exact ty
      rw [List.set_set]
      refine y_ii hC (E 24 _ rfl) rfl ?_
      refine y_go hC (E 25 _ rfl) ?_
      have := IH (c + 1) k (upd f (438 * k + c) (fa c)) (by omega) (by omega) hk (fun q hq => by
        rw [pk_un (by omega)]
        exact hf q hq) (fun w hw hwc => by
        by_cases ek : w = c
        · subst ek
          rw [pk_us]
          exact ga w hw
        · rw [pk_un (by omega)]
          exact hf2 w hw (by omega))
      rw [nI_succ] at this
      exact this
  show Y X 0 0 [some (.ref am), some (.int x), none] [] ws ts
  refine y_iln hC (E 0 _ rfl) rfl ?_
  refine y_ic hC (E 1 _ rfl) ?_
  refine y_ic hC (E 2 _ rfl) ?_
  refine y_stap hok hC (E 3 _ rfl) (by decide) (by decide) (av := [.int x, .int (nI 0), .int (nI 2)]) (rv := []) (by rw [htt]; exact h_m_in hok x (nI 0) (nI 2)) rfl rfl (by rw [hd]; decide) hn h_cat0 ?_
  refine y_if hC (E 4 _ rfl) (fun h => ?_) (fun h => ?_)
  · have h : ¬ nI (h_in x (nI 0) (nI 2)) = 0 := h
    rcases h_nI01 (h_in_lt x (nI 0) (nI 2)) with ⟨g, _⟩ | ⟨_, g⟩
    · exact absurd g h
    obtain ⟨k, k1, rfl⟩ := h_in_nat (by decide) g
    refine y_ic hC (E 7 _ rfl) ?_
    refine y_isn hC (E 8 _ rfl) ?_
    have := loop (438 - 0) 0 k fx rfl (by decide) (by omega) (fun _ _ => rfl) (fun w _ h => absurd h (Nat.not_lt_zero _))
    rw [h_setsame ws jx _ rx.2.1] at this
    exact this
  · refine y_ic hC (E 5 _ rfl) ?_
    exact y_ir hC hQ (E 6 _ rfl) hn ⟨⟨_, rfl⟩, hj⟩
theorem h_m_back (hok : ∀ i, i < q_nM → q_mok i) (hcl : q_clok) {jm am : Nat} (hm1 : (q_ad ws)[jm]? = some am) (hj : h_Jp jm ws ts) (x : Int32) : z_Met l base D sa z_tt h_kback (1, 0) 69 [.ref am, .int x] ws ts (h_pv (h_Jp jm)) := by
  refine z_ofW (fun tys hw hD => ?_)
  obtain ⟨b, N, A, U, j1, j2, j3, j4, j5, j6⟩ := id hj
  have hm2 := j1.1
  obtain ⟨fs, o1, o2, o3⟩ := h_obj hw hm1 hm2 rfl
  have o1 : ws[jm]? = some (am, .inr (9, fs)) := o1
  have o2 : fs.length = 68 := o2
  obtain ⟨ja, aa, a1, a2⟩ := id j3
  obtain ⟨jx, ax, ji, ai, x1, x2, x3⟩ := id j5
  obtain ⟨cA, fa, ra⟩ := a1.see hw o1 rfl
  obtain ⟨cW, fx, rx⟩ := x1.see hw o1 rfl
  obtain ⟨cI, fi, ri⟩ := x2.see5 hw o1 rfl
  have ra : h_row ws ts fs 41 66 438 ja aa cA fa := ra
  have rx : h_row ws ts fs 66 86 1314 jx ax cW fx := rx
  have ri : h_row ws ts fs 67 87 3 ji ai cI fi := ri
  have ti : ∀ c, c < 3 → fi c = nI 0 ∨ fi c = nI 1 := fun c hc => by
    obtain ⟨e, e1, e2⟩ := hw.cell (h_ad ri.2.1) ri.2.2
    obtain ⟨cA9, t9, f9, e9, -, e8⟩ := e2.bools rfl
    rw [ri.2.1] at e1
    cases e1
    have e7 : fi = f9 := by
      injection e9 with e9
      injection e9 with _ e9
      injection e9 with _ e9
      injection e9
    subst e7
    have := e8 c hc
    have : (z_el [(3, 2147483648, 2147483649)] (c % 3)).1 ≤ q_qb (fi c) ∧ q_qb (fi c) ≤ (z_el [(3, 2147483648, 2147483649)] (c % 3)).2 := this
    rw [h_el25 c (by decide)] at this
    have : 2147483648 ≤ q_qb (fi c) ∧ q_qb (fi c) ≤ 2147483649 := this
    rcases Nat.lt_or_ge (q_qb (fi c)) 2147483649 with h | h
    · exact Or.inl (h_qn (by decide) (by omega))
    · exact Or.inr (h_qn (by decide) (by omega))
  have gx : ∀ c, c < 3 → fi c = nI 1 → ∀ w, (w < 5 ∨ w = 435) → q_qb (fx (438 * c + w)) < 2147483648 + h_bn N w := fun c hc e w hw => by
    obtain ⟨y, y1, y2⟩ := x3 c hc
    exact rx.lt (by omega) (y2 ((ri.at hc y1).trans e) w hw)
  have njm : ¬ ja = jm := h_tne ra.2.2 hm2 (by decide)
  have njx : ¬ ja = jx := h_tne ra.2.2 rx.2.2 (by decide)
  clear hw hD
  refine y_meth (J := fun _ _ => True) (hok 69 (by decide)) (fun v hv => by
    rcases List.mem_cons.mp hv with rfl | hv
    · rfl
    rcases List.mem_singleton.mp hv with rfl
    rfl) (show 2 ≤ 3 by decide) (fun _ _ _ => trivial) ?_
  intro p e s m below meth c X hX hC hQ
  have hi : y_i X = 69 := by rw [hX]
  have htt : y_tt X = z_tt := by rw [hX]
  have hkw : y_kw X = h_kback := by rw [hX]
  have hw0 : y_w0 X = ws := by rw [hX]
  have ht0 : y_t0 X = ts := by rw [hX]
  have hl : y_l X = l ∧ y_b X = base ∧ y_D X = D ∧ y_sa X = sa := by rw [hX]; exact ⟨rfl, rfl, rfl, rfl⟩
  have hd : y_d X = (1, 0) := by rw [hX]
  clear hX
  obtain ⟨rfl, rfl, rfl, rfl⟩ := hl
  have E := y_Ei hok hi (by decide) (cd := q_cd69) rfl
  have hn : (0 : Nat) ≤ (y_d X).2 := Nat.zero_le _
  have hwa : ∀ q, q < 438 → z_wr (y_kw X) 66 q := fun q hq => by rw [hkw]; exact h_wrm List.mem_cons_self (by omega) (by omega)
  have hwm : ∀ q, 43 ≤ q → q ≤ 44 → z_wr (y_kw X) 40 q := fun q h1 h2 => by rw [hkw]; exact h_wrm (List.mem_cons_of_mem _ (List.mem_singleton.mpr rfl)) (by omega) (by omega)
  have la := (List.getElem?_eq_some_iff.mp ra.2.1).1
  have lm := (List.getElem?_eq_some_iff.mp o1).1
  have loop : ∀ (m c k : Nat) (f : Nat → Int32), 438 - c = m → c ≤ 438 → k < 3 → fi k = nI 1 → (∀ w, (w < 5 ∨ w = 435) → w < c → q_qb (f w) < 2147483648 + h_bn N w) → Y X 0 22 [some (.ref am), some (.int (nI k)), some (.int (nI c))] [] (ws.set ja (aa, .inl (cA, 438, .inl f))) ts := by
    intro m
    induction m with
    | zero =>
      intro c k f hm hc hk hb hf
      have e : c = 438 := by omega
      subst e
      have qm : (ws.set ja (aa, .inl (cA, 438, .inl f)))[jm]? = some (am, .inr (9, fs)) := h_getset o1 njm
      refine y_iln hC (E 14 _ rfl) rfl ?_
      refine y_sp hC (E 15 _ rfl) ?_
      refine y_cmp hC (E 16 _ rfl) (fun _ => ?_) (fun h => ?_)
      · refine y_aln hC (E 31 _ rfl) rfl ?_
        refine y_ic hC (E 32 _ rfl) ?_
        refine y_put hcl hC (E 33 _ rfl) qm hm2 (by rw [htt]; rfl) ?_ (by omega) (hwm 43 (by omega) (by omega)) (Or.inl ⟨rfl, _, rfl⟩) ?_
        · rw [htt]
          show z_tv _ ts (0, 2147483648, 2147483688) _
          exact h_tvn (by decide) (by decide) (by decide)
        have lm2 : jm < (ws.set ja (aa, .inl (cA, 438, .inl f))).length := by rw [List.length_set]; exact lm
        refine y_aln hC (E 34 _ rfl) rfl ?_
        refine y_ic hC (E 35 _ rfl) ?_
        refine y_put hcl hC (E 36 _ rfl) (List.getElem?_set_self lm2) hm2 (by rw [htt]; rfl) ?_ (by rw [List.length_set]; omega) (hwm 44 (by omega) (by omega)) (Or.inl ⟨rfl, _, rfl⟩) ?_
        · rw [htt]
          show z_tv _ ts (0, 2147483648, 2147483688) _
          exact h_tvn (by decide) (by decide) (by decide)
        rw [List.set_set]
        generalize hg : (fs.set 43 (.int (nI 0))).set 44 (.int (nI 0)) = g
        have g43 : g[43]? = some (.int (nI 0)) := by rw [← hg]; exact h_getset (List.getElem?_set_self (by omega)) (by decide)
        have g44 : g[44]? = some (.int (nI 0)) := by rw [← hg]; exact List.getElem?_set_self (by rw [List.length_set]; omega)
        have g41 : g[41]? = some (.ref aa) := by rw [← hg]; exact h_getset (h_getset ra.1 (by decide)) (by decide)
        have pm : ((ws.set ja (aa, .inl (cA, 438, .inl f))).set jm (am, .inr (9, g)))[jm]? = some (am, .inr (9, g)) := List.getElem?_set_self lm2
        have pa : ((ws.set ja (aa, .inl (cA, 438, .inl f))).set jm (am, .inr (9, g)))[ja]? = some (aa, .inl (cA, 438, .inl f)) := h_getset (List.getElem?_set_self la) (fun e => njm e.symm)
        refine y_aln hC (E 37 _ rfl) rfl ?_
        refine y_get hcl hC (E 38 _ rfl) pm g41 ?_
        refine y_sp hC (E 39 _ rfl) ?_
        refine y_ald hC (E 40 _ rfl) pa ra.2.2 (by rw [htt]; rfl) (show 435 < 438 by decide) (by decide) ?_
        refine y_tyJ hC (fun tys hw hD _ hF => ?_)
        rw [hkw, hw0, ht0] at hF
        have ra9 : h_row ((ws.set ja (aa, .inl (cA, 438, .inl f))).set jm (am, .inr (9, g))) ts g 41 66 438 ja aa cA f := ⟨g41, pa, ra.2.2⟩
        refine y_ir hC hQ (E 41 _ rfl) hn ⟨⟨_, rfl⟩, b, N, 0, 0, ?_, ⟨⟨am, _, pm, g43⟩, ⟨am, _, pm, g44⟩, by omega⟩, ⟨ja, aa, ra9.px pm, fun w hw => ra9.mk (by omega) (hf w hw (by omega))⟩, ?_, ?_, ?_⟩
        · exact j1.fr hF (h_offs (lo := 34) (hi := 34) rfl _ (by omega) (by omega)) (h_offs (lo := 11) (hi := 11) rfl _ (by omega) (by omega)) (h_offs (lo := 12) (hi := 12) rfl _ (by omega) (by omega)) (h_nots rfl _) (h_nots rfl _)
        · obtain ⟨jw, aw, w1, w2⟩ := j4.fr hF hm2 (h_offs (lo := 42) (hi := 42) rfl _ (by omega) (by omega)) (h_nots rfl)
          exact ⟨jw, aw, w1, fun k w hk _ => absurd hk (by omega)⟩
        · exact j5.fr hF hm2 (h_offs (lo := 66) (hi := 66) rfl _ (by omega) (by omega)) (h_offs (lo := 67) (hi := 67) rfl _ (by omega) (by omega)) (h_nots rfl) (h_nots rfl)
        · exact j6.fr hF hm2 (h_offs (lo := 16) (hi := 16) rfl _ (by omega) (by omega)) (h_offs (lo := 20) (hi := 20) rfl _ (by omega) (by omega)) (h_nots rfl _) (fun w _ => h_nots rfl _)
      · exact absurd h (nI_nlt (Nat.le_refl _) (by omega))
    | succ m IH =>
      intro c k f hm hc hk hb hf
      have hlt : c < 438 := by omega
      have qm : (ws.set ja (aa, .inl (cA, 438, .inl f)))[jm]? = some (am, .inr (9, fs)) := h_getset o1 njm
      have qx : (ws.set ja (aa, .inl (cA, 438, .inl f)))[jx]? = _ := h_getset rx.2.1 njx
      refine y_iln hC (E 14 _ rfl) rfl ?_
      refine y_sp hC (E 15 _ rfl) ?_
      refine y_cmp hC (E 16 _ rfl) (fun h => ?_) (fun _ => ?_)
      · exact absurd h (nI_ge hlt (by omega))
      refine y_ty (fun tys hw hD => ?_)
      rw [htt] at hw
      have ty := h_typ hw qx rx.2.2 rfl (438 * k + c) (show 438 * k + c < 1314 by omega)
      refine y_aln hC (E 17 _ rfl) rfl ?_
      refine y_get hcl hC (E 18 _ rfl) qm ra.1 ?_
      refine y_iln hC (E 19 _ rfl) rfl ?_
      refine y_aln hC (E 20 _ rfl) rfl ?_
      refine y_get hcl hC (E 21 _ rfl) qm rx.1 ?_
      refine y_sp hC (E 22 _ rfl) ?_
      refine y_iln hC (E 23 _ rfl) rfl ?_
      refine y_mul hC (E 24 _ rfl) ?_
      rw [h_nmul]
      refine y_iln hC (E 25 _ rfl) rfl ?_
      refine y_add hC (E 26 _ rfl) ?_
      rw [nI_add]
      refine y_ald hC (E 27 _ rfl) qx rx.2.2 (by rw [htt]; rfl) (show 438 * k + c < 1314 by omega) (by decide) ?_
      refine y_ast hC (E 28 _ rfl) (List.getElem?_set_self la) ra.2.2 (by rw [htt]; rfl) hlt (by decide) ?_ (hwa _ hlt) ?_
      · rw [htt]
        have e9 : (438 * k + c) % 438 = c % 438 := Nat.mul_add_mod 438 k c
        show (z_el (z_tt 67).2.2.1 (c % 438)).1 ≤ _ ∧ _ ≤ (z_el (z_tt 67).2.2.1 (c % 438)).2
        rw [← e9]
        exact ty
      rw [List.set_set]
      refine y_ii hC (E 29 _ rfl) rfl ?_
      refine y_go hC (E 30 _ rfl) ?_
      have := IH (c + 1) k (upd f c (fx (438 * k + c))) (by omega) (by omega) hk hb (fun w hw hwc => by
        by_cases ek : w = c
        · subst ek
          rw [pk_us]
          exact gx k hk hb w hw
        · rw [pk_un ek]
          exact hf w hw (by omega))
      rw [nI_succ] at this
      exact this
  show Y X 0 0 [some (.ref am), some (.int x), none] [] ws ts
  refine y_iln hC (E 0 _ rfl) rfl ?_
  refine y_ic hC (E 1 _ rfl) ?_
  refine y_ic hC (E 2 _ rfl) ?_
  refine y_stap hok hC (E 3 _ rfl) (by decide) (by decide) (av := [.int x, .int (nI 0), .int (nI 2)]) (rv := []) (by rw [htt]; exact h_m_in hok x (nI 0) (nI 2)) rfl rfl (by rw [hd]; decide) hn h_cat0 ?_
  refine y_if hC (E 4 _ rfl) (fun h => ?_) (fun h => ?_)
  · refine y_ic hC (E 10 _ rfl) ?_
    exact y_ir hC hQ (E 11 _ rfl) hn ⟨⟨_, rfl⟩, hj⟩
  · have h : ¬ nI (h_in x (nI 0) (nI 2)) = 0 := h
    rcases h_nI01 (h_in_lt x (nI 0) (nI 2)) with ⟨g, _⟩ | ⟨_, g⟩
    · exact absurd g h
    obtain ⟨k, k1, rfl⟩ := h_in_nat (by decide) g
    refine y_aln hC (E 5 _ rfl) rfl ?_
    refine y_get hcl hC (E 6 _ rfl) o1 ri.1 ?_
    refine y_iln hC (E 7 _ rfl) rfl ?_
    refine y_zald hC (E 8 _ rfl) ri.2.1 ri.2.2 (by rw [htt]; rfl) (show k < 3 by omega) (by decide) ?_
    refine y_if hC (E 9 _ rfl) (fun h2 => ?_) (fun h2 => ?_)
    · have h2 : ¬ fi k = 0 := h2
      have hb : fi k = nI 1 := by
        rcases ti k (by omega) with h3 | h3
        · exact absurd h3 h2
        · exact h3
      refine y_ic hC (E 12 _ rfl) ?_
      refine y_isn hC (E 13 _ rfl) ?_
      have := loop (438 - 0) 0 k fa rfl (by decide) (by omega) hb (fun w _ h => absurd h (Nat.not_lt_zero _))
      rw [h_setsame ws ja _ ra.2.1] at this
      exact this
    · refine y_ic hC (E 10 _ rfl) ?_
      exact y_ir hC hQ (E 11 _ rfl) hn ⟨⟨_, rfl⟩, hj⟩
end HK
