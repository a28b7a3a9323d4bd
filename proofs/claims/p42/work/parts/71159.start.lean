/-! ===== by hand: startAnew ===== -/
def h_kst : List z_C := [(66, 2147483648, 2147484085), (40, 2147483691, 2147483692), (40, 2147483696, 2147483696), (40, 2147483712, 2147483712), (87, 2147483648, 2147483650)]
theorem h_wcov {kc kw : List z_C} (h : kc.all (fun e => z_kw kw e.1 e.2.1 e.2.2) = true) : ∀ t q, z_wr kc t q → z_wr kw t q := fun t q hq => by
  obtain ⟨e, e1, e2, e3, e4⟩ := z_kw_iff.mp hq
  obtain ⟨g, g1, g2, g3, g4⟩ := z_kw_iff.mp (List.all_eq_true.mp h e e1)
  exact z_kw_iff.mpr ⟨g, g1, g2.trans e2, Nat.le_trans g3 e3, Nat.le_trans e4 g4⟩
theorem h_nopo {M : z_M} {bv : List Value} {v : Option Value} {ws : va_W} {ts : List Nat} (hM : M.2.2.2.2.2.2.2.2 = [(0, 34, (0, 1, 0))]) (h : z_CP M bv v ws ts) : False := by
  obtain ⟨a, j, e, r, -, -, -, h4⟩ := h.2 (0, 34, (0, 1, 0)) (by rw [hM]; exact List.mem_singleton.mpr rfl)
  obtain ⟨x, -, x1, x2⟩ := h_tvi h4
  omega
theorem h_el66 : ∀ c, c < 438 → (z_el (z_tt 66).2.2.1 (c % 438)).1 ≤ 2147483648 ∧ 2147483648 ≤ (z_el (z_tt 66).2.2.1 (c % 438)).2 := by decide +kernel
section HK
variable {l : Launch} {base : Nat} {D : va_G} {sa : Nat → Nat} {ws : va_W} {ts : List Nat}
theorem h_m_start (hA : z_A0 l base D sa) {jm am b N : Nat} (hm1 : (q_ad ws)[jm]? = some am) (j1 : h_Jk jm b N ws ts) (j6 : h_Jh jm b N ws ts) : z_Met l base D sa z_tt h_kst (2, 0) 115 [.ref am] ws ts (fun v ws' ts' => v = none ∧ h_Jp jm ws' ts') := by
  have hok := hA.2.1
  have hcl := hA.1
  refine z_ofW (fun tys hw hD => ?_)
  have hm2 := j1.1
  have hN := j1.2.2.2.1
  obtain ⟨fs, o1, o2, o3⟩ := h_obj hw hm1 hm2 rfl
  have o1 : ws[jm]? = some (am, .inr (9, fs)) := o1
  have o2 : fs.length = 68 := o2
  obtain ⟨ja, aa, cA, fa, a1, a2, a3, -⟩ := h_fa hw o2 o3 (k := 41) (t := 66) (u := 0) (by decide) rfl rfl
  have ra : h_row ws ts fs 41 66 438 ja aa cA fa := ⟨a1, a2, a3⟩
  have njm : ¬ ja = jm := h_tne ra.2.2 hm2 (by decide)
  clear hw hD
  refine y_meth (J := fun _ _ => True) (hok 115 (by decide)) (fun v hv => by rcases List.mem_singleton.mp hv with rfl; rfl) (show 1 ≤ 2 by decide) (fun _ _ _ => trivial) ?_
  intro p e s m below meth c X hX hC hQ
  have hi : y_i X = 115 := by rw [hX]
  have htt : y_tt X = z_tt := by rw [hX]
  have hkw : y_kw X = h_kst := by rw [hX]
  have hl : y_l X = l ∧ y_b X = base ∧ y_D X = D ∧ y_sa X = sa := by rw [hX]; exact ⟨rfl, rfl, rfl, rfl⟩
  have hd : y_d X = (2, 0) := by rw [hX]
  clear hX
  obtain ⟨rfl, rfl, rfl, rfl⟩ := hl
  have E := y_Ei hok hi (by decide) (cd := q_cd115) rfl
  have hn : (0 : Nat) ≤ (y_d X).2 := Nat.zero_le _
  have hcat : ∀ v ∈ [Value.ref am], v.category = 1 := fun v hv => by
    rcases List.mem_singleton.mp hv with rfl
    rfl
  -- the boxes
  have boxes : ∀ (m c : Nat) (f : Nat → Int32) (ws5 : va_W) (ts5 : List Nat) (fs5 : List Value) (ji ai : Nat) (cI : ClassId), 3 - c = m → c ≤ 3 → (∀ q, q < c → f q = nI 0) → ws5[jm]? = some (am, .inr (9, fs5)) → ts5[jm]? = some 40 → h_row ws5 ts5 fs5 67 87 3 ji ai cI f → h_Jk jm b N ws5 ts5 → h_Jn jm 0 0 ws5 → h_Ja jm N ws5 ts5 → h_Jh jm b N ws5 ts5 → Y X 0 84 [some (.ref am), some (.int (nI c))] [] ws5 ts5 := by
    intro m
    induction m with
    | zero =>
      intro c f ws5 ts5 fs5 ji ai cI hm hc hf q1 q2 ri k1 k2 k3 k6
      have e : c = 3 := by omega
      subst e
      refine y_iln hC (E 47 _ rfl) rfl ?_
      refine y_ic hC (E 48 _ rfl) ?_
      refine y_cmp hC (E 49 _ rfl) (fun _ => ?_) (fun h => ?_)
      · refine y_ty (fun tys5 hw5 hD5 => ?_)
        rw [htt] at hw5
        have q9 := h_objt hw5 q1 q2
        obtain ⟨jw, aw, cW, fw, w1, w2, w3, -⟩ := h_fa hw5 q9.1 q9.2 (k := 42) (t := 67) (u := 0) (by decide) rfl rfl
        obtain ⟨jx, ax, cX, fx, x1, x2, x3, -⟩ := h_fa hw5 q9.1 q9.2 (k := 66) (t := 86) (u := 0) (by decide) rfl rfl
        have rw9 : h_row ws5 ts5 fs5 42 67 17958 jw aw cW fw := ⟨w1, w2, w3⟩
        have rx9 : h_row ws5 ts5 fs5 66 86 1314 jx ax cX fx := ⟨x1, x2, x3⟩
        refine y_vr hC hQ (E 57 _ rfl) hn ⟨rfl, b, N, 0, 0, k1, k2, k3, ⟨jw, aw, rw9.px q1, fun k w hk _ => absurd hk (by omega)⟩, ⟨jx, ax, ji, ai, rx9.px q1, ri.px q1, fun c hc => ⟨nI 0, ?_, fun e => ?_⟩⟩, k6⟩
        · have := ri.pl hc
          rw [hf c hc] at this
          exact this
        · exact absurd ((nI_eq (by decide) (by decide)).mp e) (by decide)
      · exact absurd h (nI_nlt (Nat.le_refl _) (by omega))
    | succ m IH =>
      intro c f ws5 ts5 fs5 ji ai cI hm hc hf q1 q2 ri k1 k2 k3 k6
      have hlt : c < 3 := by omega
      have nji : ¬ ji = jm := h_tne ri.2.2 q2 (by decide)
      refine y_iln hC (E 47 _ rfl) rfl ?_
      refine y_ic hC (E 48 _ rfl) ?_
      refine y_cmp hC (E 49 _ rfl) (fun h => ?_) (fun _ => ?_)
      · exact absurd h (nI_ge hlt (by omega))
      refine y_aln hC (E 50 _ rfl) rfl ?_
      refine y_get hcl hC (E 51 _ rfl) q1 ri.1 ?_
      refine y_iln hC (E 52 _ rfl) rfl ?_
      refine y_ic hC (E 53 _ rfl) ?_
      refine y_zast hC (E 54 _ rfl) ri.2.1 ri.2.2 (by rw [htt]; rfl) hlt (by decide) (by decide) ?_ (by rw [hkw]; exact h_wrm (List.mem_cons_of_mem _ (List.mem_cons_of_mem _ (List.mem_cons_of_mem _ (List.mem_cons_of_mem _ List.mem_cons_self)))) (by omega) (by omega)) ?_
      · rw [htt]
        show (z_el [(3, 2147483648, 2147483649)] (c % 3)).1 ≤ _ ∧ _ ≤ (z_el [(3, 2147483648, 2147483649)] (c % 3)).2
        rw [h_el25 c (by decide), z_qnI (by decide)]
        decide
      refine y_ii hC (E 55 _ rfl) rfl ?_
      refine y_go hC (E 56 _ rfl) ?_
      have fr9 := h_setfr (kw := [(87, 2147483648, 2147483650)]) (v := nI 0) ri.2.1 ri.2.2 (h_wrm (q := c) List.mem_cons_self (by omega) (by omega))
      have := IH (c + 1) (upd f c (nI 0)) (ws5.set ji (ai, .inl (cI, 3, .inl (upd f c (nI 0))))) ts5 fs5 ji ai cI (by omega) (by omega) (fun q hq => by
        by_cases ek : q = c
        · subst ek
          exact pk_us
        · rw [pk_un ek]
          exact hf q (by omega)) (h_getset q1 nji) q2 (ri.self _) (k1.fr fr9 (h_nots rfl _) (h_nots rfl _) (h_nots rfl _) (h_nots rfl _) (h_nots rfl _)) (k2.fr fr9 q2 (h_nots rfl _) (h_nots rfl _)) (k3.fr fr9 q2 (h_nots rfl _) (fun _ _ => h_nots rfl _)) (k6.fr fr9 q2 (h_nots rfl _) (h_nots rfl _) (h_nots rfl _) (fun _ _ => h_nots rfl _))
      rw [nI_succ] at this
      exact this
  -- behind goHome
  have third : ∀ (ws4 : va_W) (ts4 : List Nat), (q_ad ws4)[jm]? = some am → h_Jk jm b N ws4 ts4 → h_Ja jm N ws4 ts4 → h_Jh jm b N ws4 ts4 → Y X 0 45 [some (.ref am), none] [] ws4 ts4 := by
    intro ws4 ts4 m1 k1 k3 k6
    refine y_z (J := fun _ _ => True) (M := z_m_start2) (av := [.ref am]) (bv := [.ref am]) hA hC hQ ⟨rfl, rfl, rfl, rfl⟩ htt hi (by decide) hd hcat rfl ⟨h_tvr m1 k1.1, trivial⟩ rfl z_p0 (fun _ _ _ => trivial) (by rw [hkw]; exact h_wcov (by decide)) z_k_start2 (fun ws5 ts5 tys5 hw5 hD5 hF5 hcp => ?_) (fun v ws5 ts5 tys5 hw5 hD5 hF5 hcp => ?_)
    · have m15 := z_gm hF5.2.1 m1
      have m25 := z_gm hF5.1 k1.1
      obtain ⟨fs5, q1, q2, q3⟩ := h_obj hw5 m15 m25 rfl
      have q1 : ws5[jm]? = some (am, .inr (9, fs5)) := q1
      have q2 : fs5.length = 68 := q2
      have q9 : ∃ (j a : Nat), fs5[67]? = some (.ref a) ∧ (q_ad ws5)[j]? = some a ∧ ts5[j]? = some 87 := by
        cases h9 : fs5[67]? with
        | none => exact absurd (List.getElem?_eq_none_iff.mp h9) (by omega)
        | some v9 =>
          obtain ⟨j, a, rfl, z1, z2⟩ := h_rt (show z_tv (q_ad ws5) ts5 (1, 87, 0) v9 from q3 67 v9 h9)
          exact ⟨j, a, rfl, z1, z2⟩
      obtain ⟨ji, ai, i1, i2, i3⟩ := q9
      obtain ⟨cI, fi, ri⟩ := (show h_px ws5 ts5 jm 67 87 ji ai from ⟨⟨am, _, q1, i1⟩, i2, i3⟩).see5 hw5 q1 rfl
      have ri : h_row ws5 ts5 fs5 67 87 3 ji ai cI fi := ri
      obtain ⟨y3, u1, u2, u3⟩ := h_fbo hD5 m15 (bv := [.ref am]) rfl (hcp.2 (0, 43, (0, 2147483648, 2147483648)) List.mem_cons_self)
      obtain ⟨y4, v1, v2, v3⟩ := h_fbo hD5 m15 (bv := [.ref am]) rfl (hcp.2 (0, 44, (0, 2147483648, 2147483648)) (List.mem_cons_of_mem _ List.mem_cons_self))
      rw [h_qv (n := 0) (by omega) (y := y3) (by omega)] at u1
      rw [h_qv (n := 0) (by omega) (y := y4) (by omega)] at v1
      refine y_ic hC (E 45 _ rfl) ?_
      refine y_isn hC (E 46 _ rfl) ?_
      exact boxes (3 - 0) 0 fi ws5 ts5 fs5 ji ai cI rfl (by decide) (fun q hq => absurd hq (Nat.not_lt_zero _)) q1 m25 ri (k1.fr hF5 (h_offs (lo := 34) (hi := 34) rfl _ (by omega) (by omega)) (h_offs (lo := 11) (hi := 11) rfl _ (by omega) (by omega)) (h_offs (lo := 12) (hi := 12) rfl _ (by omega) (by omega)) (h_nots rfl _) (h_nots rfl _)) ⟨u1, v1, by omega⟩ (k3.fr hF5 k1.1 (h_offs (lo := 41) (hi := 41) rfl _ (by omega) (by omega)) (fun w hw => by
          rcases hw with hw | rfl
          · exact h_offs (lo := 0) (hi := 4) rfl w (by omega) (by omega)
          · exact h_offs (lo := 435) (hi := 435) rfl _ (by omega) (by omega))) (k6.fr hF5 k1.1 (h_offs (lo := 16) (hi := 16) rfl _ (by omega) (by omega)) (h_offs (lo := 20) (hi := 20) rfl _ (by omega) (by omega)) (h_nots rfl _) (fun _ _ => h_nots rfl _))
    · exact (h_nopo rfl hcp).elim
  have second : ∀ (ws2 : va_W) (x : Option Value), (q_ad ws2)[jm]? = some am → h_Jk jm b N ws2 ts → h_Ja jm N ws2 ts → h_Jh jm b N ws2 ts → Y X 0 22 [some (.ref am), x] [] ws2 ts := by
    intro ws2 x m1 k1 k3 k6
    refine y_wk (L' := [some (.ref am), none]) rfl (fun k v hk => by
      match k, hk with
      | 0, hk => exact hk
      | 1, hk => cases hk
      | k + 2, hk => cases hk) ?_
    refine y_z (J := fun _ _ => True) (M := z_m_start1) (av := [.ref am]) (bv := [.ref am]) hA hC hQ ⟨rfl, rfl, rfl, rfl⟩ htt hi (by decide) hd hcat rfl ⟨h_tvr m1 k1.1, trivial⟩ rfl z_p0 (fun _ _ _ => trivial) (by rw [hkw]; exact h_wcov (by decide)) z_k_start1 (fun ws5 ts5 tys5 hw5 hD5 hF5 hcp => ?_) (fun v ws5 ts5 tys5 hw5 hD5 hF5 hcp => (h_nopo rfl hcp).elim)
    have m15 := z_gm hF5.2.1 m1
    have n1 := k1.fr hF5 (h_nots rfl _) (h_nots rfl _) (h_nots rfl _) (h_nots rfl _) (h_nots rfl _)
    have n3 := k3.fr hF5 k1.1 (h_nots rfl _) (fun w hw => by
          rcases hw with hw | rfl
          · exact h_offs (lo := 0) (hi := 4) rfl w (by omega) (by omega)
          · exact h_offs (lo := 435) (hi := 435) rfl _ (by omega) (by omega))
    have n6 := k6.fr hF5 k1.1 (h_nots rfl _) (h_nots rfl _) (h_nots rfl _) (fun _ _ => h_nots rfl _)
    obtain ⟨fs5, q1, -, -⟩ := h_obj hw5 m15 n1.1 rfl
    have q1 : ws5[jm]? = some (am, .inr (9, fs5)) := q1
    show Y X 0 41 [some (.ref am), none] [] ws5 ts5
    refine y_aln hC (E 22 _ rfl) rfl ?_
    refine y_vir hok hC (E 23 _ rfl) (by decide) (As := []) (rv := []) (dd := (1, 0)) (by rw [htt]; exact h_m_home hA m15 n1 n3 n6) q1 rfl rfl (by rw [hd]; decide) hn h_cat0 (by rw [hkw]; exact h_wcov (by decide)) (fun v ws6 ts6 hF6 hp => ?_)
    obtain ⟨rfl, p3⟩ := hp
    exact third ws6 ts6 (z_gm hF6.2.1 m15) (n1.fr hF6 (h_nots rfl _) (h_nots rfl _) (h_nots rfl _) (h_nots rfl _) (h_nots rfl _)) p3 (n6.fr hF6 n1.1 (h_nots rfl _) (h_nots rfl _) (h_nots rfl _) (fun _ _ => h_nots rfl _))
  have la := (List.getElem?_eq_some_iff.mp ra.2.1).1
  have loop : ∀ (m c : Nat) (f : Nat → Int32), 438 - c = m → c ≤ 438 → (∀ q, q < c → f q = nI 0) → z_Fr [(66, 2147483648, 2147484085)] ws ts (ws.set ja (aa, .inl (cA, 438, .inl f))) ts → Y X 0 2 [some (.ref am), some (.int (nI c))] [] (ws.set ja (aa, .inl (cA, 438, .inl f))) ts := by
    intro m
    induction m with
    | zero =>
      intro c f hm hc hf hfr
      have e : c = 438 := by omega
      subst e
      have qm : (ws.set ja (aa, .inl (cA, 438, .inl f)))[jm]? = some (am, .inr (9, fs)) := h_getset o1 njm
      refine y_iln hC (E 2 _ rfl) rfl ?_
      refine y_sp hC (E 3 _ rfl) ?_
      refine y_cmp hC (E 4 _ rfl) (fun _ => ?_) (fun h => ?_)
      · have r9 := ra.self f
        refine second _ _ (h_ad qm) (j1.fr hfr (h_nots rfl _) (h_nots rfl _) (h_nots rfl _) (h_nots rfl _) (h_nots rfl _)) ⟨ja, aa, r9.px qm, fun w hw => r9.mk (by omega) ?_⟩ (j6.fr hfr hm2 (h_nots rfl _) (h_nots rfl _) (h_nots rfl _) (fun _ _ => h_nots rfl _))
        rw [hf w (by omega), z_qnI (by decide)]
        unfold h_bn
        split <;> omega
      · exact absurd h (nI_nlt (Nat.le_refl _) (by omega))
    | succ m IH =>
      intro c f hm hc hf hfr
      have hlt : c < 438 := by omega
      have qm : (ws.set ja (aa, .inl (cA, 438, .inl f)))[jm]? = some (am, .inr (9, fs)) := h_getset o1 njm
      refine y_iln hC (E 2 _ rfl) rfl ?_
      refine y_sp hC (E 3 _ rfl) ?_
      refine y_cmp hC (E 4 _ rfl) (fun h => ?_) (fun _ => ?_)
      · exact absurd h (nI_ge hlt (by omega))
      refine y_aln hC (E 5 _ rfl) rfl ?_
      refine y_get hcl hC (E 6 _ rfl) qm ra.1 ?_
      refine y_iln hC (E 7 _ rfl) rfl ?_
      refine y_ic hC (E 8 _ rfl) ?_
      refine y_ast hC (E 9 _ rfl) (List.getElem?_set_self la) ra.2.2 (by rw [htt]; rfl) hlt (by decide) ?_ (by rw [hkw]; exact h_wrm List.mem_cons_self (by omega) (by omega)) ?_
      · rw [htt, z_qnI (by decide)]
        exact h_el66 c hlt
      have fr9 := h_setfr (kw := [(66, 2147483648, 2147484085)]) (v := nI 0) (List.getElem?_set_self (a := (aa, .inl (cA, 438, .inl f))) la) ra.2.2 (h_wrm (q := c) List.mem_cons_self (by omega) (by omega))
      have hfr2 := hfr.trans fr9
      rw [List.set_set] at hfr2
      rw [List.set_set]
      refine y_ii hC (E 10 _ rfl) rfl ?_
      refine y_go hC (E 11 _ rfl) ?_
      have := IH (c + 1) (upd f c (nI 0)) (by omega) (by omega) (fun q hq => by
        by_cases ek : q = c
        · subst ek
          exact pk_us
        · rw [pk_un ek]
          exact hf q (by omega)) hfr2
      rw [nI_succ] at this
      exact this
  show Y X 0 0 [some (.ref am), none] [] ws ts
  refine y_ic hC (E 0 _ rfl) ?_
  refine y_isn hC (E 1 _ rfl) ?_
  have e0 := h_setsame ws ja _ ra.2.1
  have := loop (438 - 0) 0 fa rfl (Nat.zero_le _) (fun q hq => absurd hq (Nat.not_lt_zero _)) (by rw [e0]; exact z_Fr.rf _ _ _)
  rw [e0] at this
  exact this
end HK
