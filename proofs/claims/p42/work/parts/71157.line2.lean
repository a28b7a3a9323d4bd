/-! ===== by hand: readLine, walked ===== -/
theorem h_lc48 : ¬ lg_cmp (z_lcv 4) (z_lcv 8) = 0 := by decide +kernel
theorem h_lc49 : ¬ lg_cmp (z_lcv 4) (z_lcv 9) = 0 := by decide +kernel
theorem h_lc4a : ¬ lg_cmp (z_lcv 4) (z_lcv 10) = 0 := by decide +kernel
theorem h_lc89 : ¬ lg_cmp (z_lcv 8) (z_lcv 9) = 0 := by decide +kernel
theorem h_lc8a : ¬ lg_cmp (z_lcv 8) (z_lcv 10) = 0 := by decide +kernel
theorem h_nil {kw : List z_C} : ∀ t q, z_wr [] t q → z_wr kw t q := fun t q hq => by
  obtain ⟨e, e1, -⟩ := z_kw_iff.mp hq
  cases e1
section HK
variable {l : Launch} {base : Nat} {D : va_G} {sa : Nat → Nat} {ws : va_W} {ts : List Nat}
theorem h_rl_tail (hA : z_A0 l base D sa) {X : y_X} {jm am b ln : Nat} {post : Option Value → va_W → List Nat → Prop} (hpost : post = h_prl jm b ln) (hC : y_C X) (hQ : y_end X post) (hl : y_l X = l ∧ y_b X = base ∧ y_D X = D ∧ y_sa X = sa) (htt : y_tt X = z_tt) (hi : y_i X = 269) (hkw : y_kw X = h_krl b) (hd : y_d X = (8, 0)) {ls : Array Slot} {lv : List (Nat × Value)} (hlv : lv_has ls 3 lv) (h0 : ls[0]? = some (.val (.ref am))) {ws3 : va_W} {ts3 : List Nat} (g1 : (q_ad ws3)[jm]? = some am) (g2 : ts3[jm]? = some 40) (hor : h_fb ws3 jm 4 2147483649 4294967295 ∨ h_nbx jm b (ln + 1) ws3 ts3) : y_V X 0 206 ls [] ws3 ts3 := by
  subst hpost
  have hok := hA.2.1
  have hcl := hA.1
  obtain ⟨rfl, rfl, rfl, rfl⟩ := hl
  have E := y_Ei hok hi (by decide) (cd := q_cd269) rfl
  have hn : (0 : Nat) ≤ (y_d X).2 := Nat.zero_le _
  have hsz : ls.size = q_ml (y_i X) := by rw [hi]; exact hlv.1
  have hL0 : y_L (List.replicate (q_ml (y_i X)) none) (q_ml (y_i X)) ls := y_L0 (by rw [hi]; exact hlv)
  refine v_ty (fun tys3 hw3 hD3 => ?_)
  rw [htt] at hw3
  obtain ⟨fs3, q1, -, -⟩ := h_obj hw3 g1 g2 rfl
  have q1 : ws3[jm]? = some (am, .inr (9, fs3)) := q1
  refine v_aln hC (E 113 _ rfl) h0 ?_
  refine v_aln hC (E 114 _ rfl) h0 ?_
  refine v_bp hC (E 115 _ rfl) ?_
  refine v_vir hok hC (E 116 _ rfl) (by decide) (As := [.int (nI 59)]) (rv := [.ref am]) (dd := (1, 0)) (kc := []) (by rw [htt]; exact r_signHere hA ws3 ts3 [.ref am, .int (nI 59)] [.ref am, .int (nI 59)] ⟨h_tvr g1 g2, h_tint _ _ _, trivial⟩ rfl trivial) q1 rfl rfl (by rw [hd]; decide) hn (show 1 ≤ 8 by decide) hsz h_nil (fun v ws5 ts5 hF5 hp => ?_)
  have hp1 := hp.1
  rw [if_pos (show z_m_signHere.2.2.2.2.2.2.1 = true from rfl)] at hp1
  obtain ⟨t, t1, x, rfl, t2⟩ := hp1
  have hy : ∃ y : Int32, x = .int y ∧ 2147483648 ≤ q_qb y ∧ q_qb y ≤ 2147483649 := by
    rcases List.mem_cons.mp t1 with rfl | t1
    · obtain ⟨y, rfl, y1, y2⟩ := h_tvi t2
      exact ⟨y, rfl, y1, by omega⟩
    · rcases List.mem_singleton.mp t1 with rfl
      obtain ⟨y, rfl, y1, y2⟩ := h_tvi t2
      exact ⟨y, rfl, by omega, y2⟩
  obtain ⟨y, rfl, y1, y2⟩ := hy
  have g15 := z_gm hF5.2.1 g1
  have g25 := z_gm hF5.1 g2
  refine v_ty (fun tys5 hw5 hD5 => ?_)
  rw [htt] at hw5
  obtain ⟨fs5, s1, -, -⟩ := h_obj hw5 g15 g25 rfl
  have s1 : ws5[jm]? = some (am, .inr (9, fs5)) := s1
  have hta : z_Ta (q_ad ws5) ts5 [(1, 40, 0), (0, 2147483648, 2147483649)] [.ref am, .int y] := ⟨h_tvr g15 g25, Or.inl ⟨rfl, y, rfl, y1, y2⟩, trivial⟩
  have f5 : z_Fr h_kmu ws3 ts3 ws5 ts5 := hF5.wide h_nil
  show y_V X 0 213 ls [.int y, .ref am] ws5 ts5
  rcases hor with hbad | hgood
  · obtain ⟨x4, u1, u2, u3⟩ := hbad.fr hF5 g2 (fun h => by obtain ⟨e, e1, -⟩ := z_kw_iff.mp h; cases e1)
    refine v_vir hok hC (E 117 _ rfl) (by decide) (As := [.int y]) (rv := []) (dd := (2, 0)) (kc := []) (by rw [htt]; exact r_must1 hA ws5 ts5 [.ref am, .int y] [.ref am, .int y, .int x4] hta (u1.pf g15 rfl (Or.inl ⟨rfl, x4, rfl, u2, u3⟩) rfl) trivial) s1 rfl rfl (by rw [hd]; decide) hn h_cat0 hsz h_nil (fun v ws6 ts6 hF6 hp6 => ?_)
    have hv : v = none := by
      have := hp6.1
      rw [if_neg (show ¬ z_m_must1.2.2.2.2.2.2.1 = true from by decide)] at this
      exact this
    subst hv
    refine v_ty (fun tys6 hw6 hD6 => ?_)
    refine v_of (y_vr hC hQ (E 118 _ rfl) hn ⟨rfl, Or.inl ?_⟩) hL0
    exact h_fbo hD6 (z_gm hF6.2.1 g15) (bv := [.ref am, .int y, .int x4]) rfl (hp6.2 (0, 4, (0, 2147483649, 4294967295)) (List.mem_singleton.mpr rfl))
  · obtain ⟨hu, wk, ti, wi, dr, c, r, nb, hnn⟩ := hgood
    have n5 : h_fb ws5 jm 7 2147483648 2147485248 := nb.1.2.fr hF5 g2 (fun h => by obtain ⟨e, e1, -⟩ := z_kw_iff.mp h; cases e1)
    obtain ⟨x7, u1, u2, u3⟩ := id n5
    refine v_vir hok hC (E 117 _ rfl) (by decide) (As := [.int y]) (rv := []) (dd := (2, 0)) (kc := h_kmu) (by rw [htt]; exact r_must hA z_JK_T ws5 ts5 [.ref am, .int y] [.ref am, .int y, .int x7] hta (u1.pf g15 rfl (Or.inl ⟨rfl, x7, rfl, u2, u3⟩) rfl) trivial) s1 rfl rfl (by rw [hd]; decide) hn h_cat0 hsz (by rw [hkw]; exact h_wsub (fun e he => List.mem_cons_of_mem _ (List.mem_append_left _ (by rcases List.mem_singleton.mp he with rfl; exact List.mem_cons_self)))) (fun v ws6 ts6 hF6 hp6 => ?_)
    have hv : v = none := by
      have := hp6.1
      rw [if_neg (show ¬ h_Mmust.2.2.2.2.2.2.1 = true from by decide)] at this
      exact this
    subst hv
    refine v_ty (fun tys6 hw6 hD6 => ?_)
    refine v_of (y_vr hC hQ (E 118 _ rfl) hn ⟨rfl, Or.inr ⟨hu, wk, ti, wi, dr, c, r, ?_, hnn⟩⟩) hL0
    exact (nb.fm f5 g2 n5).fm hF6 g25 (h_fbo hD6 (z_gm hF6.2.1 g15) (bv := [.ref am, .int y, .int x7]) rfl (hp6.2 (0, 7, (0, 2147483648, 2147485248)) (List.mem_singleton.mpr rfl)))
/-- no word of the rest is the line's -/
theorem h_rl_137 (hA : z_A0 l base D sa) {X : y_X} {jm am b ln k : Nat} {post : Option Value → va_W → List Nat → Prop} (hpost : post = h_prl jm b ln) (hC : y_C X) (hQ : y_end X post) (hl : y_l X = l ∧ y_b X = base ∧ y_D X = D ∧ y_sa X = sa) (htt : y_tt X = z_tt) (hi : y_i X = 269) (hkw : y_kw X = h_krl b) (hd : y_d X = (8, 0)) {ls : Array Slot} {lv : List (Nat × Value)} (hlv : lv_has ls 3 lv) (h0 : ls[0]? = some (.val (.ref am))) (h1 : ls[1]? = some (.val (.long (z_lcv k)))) (e9 : ¬ lg_cmp (z_lcv k) (z_lcv 9) = 0) (e10 : ¬ lg_cmp (z_lcv k) (z_lcv 10) = 0) {ws3 : va_W} {ts3 : List Nat} (g1 : (q_ad ws3)[jm]? = some am) (g2 : ts3[jm]? = some 40) (hor : h_fb ws3 jm 4 2147483649 4294967295 ∨ h_nbx jm b (ln + 1) ws3 ts3) : y_V X 0 137 ls [] ws3 ts3 := by
  have E := y_Ei hA.2.1 hi (by decide) (cd := q_cd269) rfl
  refine v_lln hC (E 75 _ rfl) h1 ?_
  refine v_l2 hC (E 76 _ rfl) (by decide) ?_
  refine v_lcmp hC (E 77 _ rfl) ?_
  refine v_if hC (E 78 _ rfl) (fun _ => ?_) (fun h => absurd h e9)
  refine v_lln hC (E 94 _ rfl) h1 ?_
  refine v_l2 hC (E 95 _ rfl) (by decide) ?_
  refine v_lcmp hC (E 96 _ rfl) ?_
  refine v_if hC (E 97 _ rfl) (fun _ => ?_) (fun h => absurd h e10)
  exact h_rl_tail hA hpost hC hQ hl htt hi hkw hd hlv h0 g1 g2 hor
theorem h_rl_walker (hA : z_A0 l base D sa) {X : y_X} {jm am b ln hu wk ti wi dr c r : Nat} {post : Option Value → va_W → List Nat → Prop} (hpost : post = h_prl jm b ln) (hC : y_C X) (hQ : y_end X post) (hl : y_l X = l ∧ y_b X = base ∧ y_D X = D ∧ y_sa X = sa) (htt : y_tt X = z_tt) (hi : y_i X = 269) (hkw : y_kw X = h_krl b) (hd : y_d X = (8, 0)) {ls : Array Slot} {lv : List (Nat × Value)} (hlv : lv_has ls 3 lv) (h0 : ls[0]? = some (.val (.ref am))) (h1 : ls[1]? = some (.val (.long (z_lcv 4)))) (hb : b < 2) {ws3 : va_W} {ts3 : List Nat} (g1 : (q_ad ws3)[jm]? = some am) (g2 : ts3[jm]? = some 40) (hwk : wk ≤ 4) (nb : h_nb jm b (ln + 1) hu wk ti wi dr c r ws3 ts3) (hnn : h_nn ln hu wk ti wi dr c r) : y_V X 0 110 ls [] ws3 ts3 := by
  have hok := hA.2.1
  have hl' := hl
  obtain ⟨rfl, rfl, rfl, rfl⟩ := hl
  have E := y_Ei hok hi (by decide) (cd := q_cd269) rfl
  have hn : (0 : Nat) ≤ (y_d X).2 := Nat.zero_le _
  have hsz : ls.size = q_ml (y_i X) := by rw [hi]; exact hlv.1
  obtain ⟨m1, m2, m3, m4, m5, m6, m7, m8, m9⟩ := hnn
  obtain ⟨⟨n35, n7⟩, ⟨n13, n14, n16, n25, n26, n27, n11, n12⟩, nh, nc⟩ := nb
  refine v_ty (fun tys3 hw3 hD3 => ?_)
  rw [htt] at hw3
  obtain ⟨fs3, q1, -, -⟩ := h_obj hw3 g1 g2 rfl
  have q1 : ws3[jm]? = some (am, .inr (9, fs3)) := q1
  refine v_aln hC (E 60 _ rfl) h0 ?_
  refine v_vir hok hC (E 61 _ rfl) (by decide) (As := []) (rv := []) (dd := (6, 0)) (by rw [htt]; exact h_m_rw hA hb g1 g2 n35 n7 n16 hwk n11 m6 n12 m7 nh) q1 rfl rfl (by rw [hd]; decide) hn h_cat0 hsz (by rw [hkw]; exact h_wsub (fun e he => List.mem_cons_of_mem _ (List.mem_append_right _ (List.mem_append_left _ he)))) (fun v ws5 ts5 hF5 hp => ?_)
  obtain ⟨rfl, hor⟩ := hp
  have g15 := z_gm hF5.2.1 g1
  have g25 := z_gm hF5.1 g2
  have k : ∀ q, 11 ≤ q → q ≤ 67 → ¬ z_wr (h_krw b) 40 q := fun q h1 h2 => h_offs (lo := 11) (hi := 67) rfl q h1 h2
  have hor5 : h_fb ws5 jm 4 2147483649 4294967295 ∨ h_nbx jm b (ln + 1) ws5 ts5 := by
    rcases hor with hor | ⟨u1, u2, u3⟩
    · exact Or.inl hor
    · right
      refine ⟨hu, wk + 1, ti, wi, dr, c, r, ⟨⟨n35.fr hF5 g2 (k _ (by omega) (by omega)), u1⟩, ⟨n13.fr hF5 g2 (k _ (by omega) (by omega)) (h_nots rfl _), n14.fr hF5 g2 (k _ (by omega) (by omega)) (h_nots rfl _), u2, n25.fr hF5 g2 (k _ (by omega) (by omega)) (h_nots rfl _), n26.fr hF5 g2 (k _ (by omega) (by omega)) (h_nots rfl _), n27.fr hF5 g2 (k _ (by omega) (by omega)) (h_nots rfl _), n11.fr hF5 g2 (k _ (by omega) (by omega)) (h_nots rfl _), n12.fr hF5 g2 (k _ (by omega) (by omega)) (h_nots rfl _)⟩, u3, ?_⟩, m1, by omega, m3, m4, m5, m6, m7, by omega, by omega⟩
      rcases nc with ⟨e1, e2⟩ | ⟨e1, e2⟩
      · exact Or.inl ⟨e1, e2.fr hF5 g2 (k _ (by omega) (by omega))⟩
      · exact Or.inr ⟨e1, e2.fr hF5 g2 (k _ (by omega) (by omega)) (k _ (by omega) (by omega)) (k _ (by omega) (by omega)) (h_nots rfl) (h_nots rfl _) (h_nots rfl _)⟩
  show y_V X 0 114 ls [] ws5 ts5
  refine v_lln hC (E 62 _ rfl) h1 ?_
  refine v_l2 hC (E 63 _ rfl) (by decide) ?_
  refine v_lcmp hC (E 64 _ rfl) ?_
  refine v_if hC (E 65 _ rfl) (fun _ => ?_) (fun h => absurd h h_lc48)
  exact h_rl_137 hA hpost hC hQ hl' htt hi hkw hd hlv h0 h1 h_lc49 h_lc4a g15 g25 hor5
theorem h_rl_tide (hA : z_A0 l base D sa) {X : y_X} {jm am b ln hu wk ti wi dr c r : Nat} {post : Option Value → va_W → List Nat → Prop} (hpost : post = h_prl jm b ln) (hC : y_C X) (hQ : y_end X post) (hl : y_l X = l ∧ y_b X = base ∧ y_D X = D ∧ y_sa X = sa) (htt : y_tt X = z_tt) (hi : y_i X = 269) (hkw : y_kw X = h_krl b) (hd : y_d X = (8, 0)) {ls : Array Slot} {lv : List (Nat × Value)} (hlv : lv_has ls 3 lv) (h0 : ls[0]? = some (.val (.ref am))) (h1 : ls[1]? = some (.val (.long (z_lcv 8)))) (hb : b < 2) {ws3 : va_W} {ts3 : List Nat} (g1 : (q_ad ws3)[jm]? = some am) (g2 : ts3[jm]? = some 40) (hti : ti = 0) (nb : h_nb jm b (ln + 1) hu wk ti wi dr c r ws3 ts3) (hnn : h_nn ln hu wk ti wi dr c r) : y_V X 0 122 ls [] ws3 ts3 := by
  have hok := hA.2.1
  have hcl := hA.1
  have hl' := hl
  obtain ⟨rfl, rfl, rfl, rfl⟩ := hl
  have E := y_Ei hok hi (by decide) (cd := q_cd269) rfl
  have hn : (0 : Nat) ≤ (y_d X).2 := Nat.zero_le _
  have hsz : ls.size = q_ml (y_i X) := by rw [hi]; exact hlv.1
  subst hti
  obtain ⟨m1, m2, m3, m4, m5, m6, m7, m8, m9⟩ := hnn
  obtain ⟨⟨n35, n7⟩, ⟨n13, n14, n16, n25, n26, n27, n11, n12⟩, nh, nc⟩ := nb
  have n36 : h_pl ws3 jm 36 (.int (nI (560 * b))) := by
    rcases nc with ⟨e1, e2⟩ | ⟨e1, e2⟩
    · exact e2
    · cases e1
  refine v_ty (fun tys3 hw3 hD3 => ?_)
  rw [htt] at hw3
  obtain ⟨fs3, q1, -, -⟩ := h_obj hw3 g1 g2 rfl
  have q1 : ws3[jm]? = some (am, .inr (9, fs3)) := q1
  obtain ⟨jt, ax, t1, t2⟩ := id n25
  obtain ⟨cT, ft, rt⟩ := t1.see5 hw3 q1 rfl
  have rt : h_row ws3 ts3 fs3 25 57 2 jt ax cT ft := rt
  have njm : ¬ jt = jm := h_tne rt.2.2 g2 (by decide)
  refine v_aln hC (E 66 _ rfl) h0 ?_
  refine v_get hcl hC (E 67 _ rfl) q1 rt.1 ?_
  refine v_aln hC (E 68 _ rfl) h0 ?_
  refine v_get hcl hC (E 69 _ rfl) q1 (n35.fld q1) ?_
  refine v_ic hC (E 70 _ rfl) ?_
  refine v_zast hC (E 71 _ rfl) rt.2.1 rt.2.2 (by rw [htt]; rfl) hb (by decide) (by decide) ?_ (by rw [hkw]; exact h_wrm List.mem_cons_self (Nat.le_refl _) (Nat.le_refl _)) ?_
  · rw [htt]
    show (z_el [(2, 2147483648, 2147483649)] (b % 2)).1 ≤ _ ∧ _ ≤ (z_el [(2, 2147483648, 2147483649)] (b % 2)).2
    rw [h_el25 _ (by decide), z_qnI (by decide)]
    decide
  have fr9 := h_setfr (kw := [(57, 2147483648 + b, 2147483648 + b)]) (v := nI 1) rt.2.1 rt.2.2 (h_wrm (q := b) List.mem_cons_self (Nat.le_refl _) (Nat.le_refl _))
  have s1 := h_getset (y := (ax, (.inl (cT, 2, .inl (upd ft b (nI 1))) : va_E))) q1 njm
  have r9 := rt.self (upd ft b (nI 1))
  have t9 : h_ln (ws3.set jt (ax, .inl (cT, 2, .inl (upd ft b (nI 1))))) ts3 jm 25 57 b (nI 1) := ⟨jt, ax, r9.px s1, by
    have := r9.pl hb
    rw [pk_us] at this
    exact this⟩
  have g14 := h_ad s1
  generalize ws3.set jt (ax, .inl (cT, 2, .inl (upd ft b (nI 1)))) = ws4 at fr9 s1 t9 g14
  have k4 : ∀ q, ¬ z_wr [(57, 2147483648 + b, 2147483648 + b)] 40 q := h_nots rfl
  refine v_aln hC (E 72 _ rfl) h0 ?_
  refine v_ic hC (E 73 _ rfl) ?_
  refine v_vir hok hC (E 74 _ rfl) (by decide) (As := [.int (nI 0)]) (rv := []) (dd := (7, 0)) (by rw [htt]; exact h_m_rule hA hb g14 g2 (n35.fr fr9 g2 (k4 _)) (n36.fr fr9 g2 (k4 _)) (n7.fr fr9 g2 (k4 _))) s1 rfl rfl (by rw [hd]; decide) hn h_cat0 hsz (by rw [hkw]; exact h_wsub (fun e he => List.mem_cons_of_mem _ (List.mem_append_right _ (List.mem_append_right _ he)))) (fun v ws5 ts5 hF5 hp => ?_)
  obtain ⟨rfl, u7, hor⟩ := hp
  have g15 := z_gm hF5.2.1 g14
  have g25 := z_gm hF5.1 g2
  have k : ∀ q, 11 ≤ q → q ≤ 35 → ¬ z_wr (h_krr b) 40 q := fun q h1 h2 => h_offs (lo := 11) (hi := 35) rfl q h1 h2
  have hor5 : h_fb ws5 jm 4 2147483649 4294967295 ∨ h_nbx jm b (ln + 1) ws5 ts5 := by
    rcases hor with hor | hor
    · exact Or.inl hor
    · right
      exact ⟨hu, wk, 1, wi, dr, c, r, ⟨⟨(n35.fr fr9 g2 (k4 _)).fr hF5 g2 (k _ (by omega) (by omega)), u7⟩, ⟨(n13.fr fr9 g2 (k4 _) (h_nots rfl _)).fr hF5 g2 (k _ (by omega) (by omega)) (h_nots rfl _), (n14.fr fr9 g2 (k4 _) (h_nots rfl _)).fr hF5 g2 (k _ (by omega) (by omega)) (h_nots rfl _), (n16.fr fr9 g2 (k4 _) (h_nots rfl _)).fr hF5 g2 (k _ (by omega) (by omega)) (h_nots rfl _), t9.fr hF5 g2 (k _ (by omega) (by omega)) (h_nots rfl _), (n26.fr fr9 g2 (k4 _) (h_nots rfl _)).fr hF5 g2 (k _ (by omega) (by omega)) (h_nots rfl _), (n27.fr fr9 g2 (k4 _) (h_nots rfl _)).fr hF5 g2 (k _ (by omega) (by omega)) (h_nots rfl _), (n11.fr fr9 g2 (k4 _) (h_nots rfl _)).fr hF5 g2 (k _ (by omega) (by omega)) (h_nots rfl _), (n12.fr fr9 g2 (k4 _) (h_nots rfl _)).fr hF5 g2 (k _ (by omega) (by omega)) (h_nots rfl _)⟩, (nh.fr fr9 g2 (k4 _) (fun _ _ => h_nots rfl _)).fr hF5 g2 (k _ (by omega) (by omega)) (fun _ _ => h_nots rfl _), Or.inr ⟨rfl, hor⟩⟩, m1, m2, by omega, m4, m5, m6, m7, by omega, by omega⟩
  show y_V X 0 137 ls [] ws5 ts5
  exact h_rl_137 hA hpost hC hQ hl' htt hi hkw hd hlv h0 h1 h_lc89 h_lc8a g15 g25 hor5
theorem h_pl.pf' {j k i a : Nat} {v : Value} {t : z_C} {ps : List (Nat × Nat × z_C)} {bv bv' out : List Value} (h : h_pl ws j k v) (ha : (q_ad ws)[j]? = some a) (hb : bv[i]? = some (.ref a)) (ht : z_tv (q_ad ws) ts t v) (e : bv ++ [v] = bv') (hr : z_Pf ws ts ps bv' out) : z_Pf ws ts ((i, k, t) :: ps) bv out := by
  subst e
  exact h.pf ha hb ht hr
theorem h_rl_pf {jm am b : Nat} {x7 : Int32} {ln hu wk ti wi dr c r al ah aw ax ai ad ac ar jl jh jw jt ji jd jc jr : Nat} (hb : b < 2) (hm1 : (q_ad ws)[jm]? = some am) (n35 : h_pl ws jm 35 (.int (nI b))) (h71 : h_pl ws jm 7 (.int x7)) (h72 : 2147483648 ≤ q_qb x7) (h73 : q_qb x7 ≤ 2147485248) (h4 : h_pl ws jm 4 (.int (nI 0))) (l1 : h_px ws ts jm 13 43 jl al) (l2 : h_pl ws jl b (.int (nI ln))) (k1 : h_px ws ts jm 14 44 jh ah) (k2 : h_pl ws jh b (.int (nI hu))) (w1 : h_px ws ts jm 16 51 jw aw) (w2 : h_pl ws jw b (.int (nI wk))) (t1 : h_px ws ts jm 25 57 jt ax) (t2 : h_pl ws jt b (.int (nI ti))) (i1 : h_px ws ts jm 26 58 ji ai) (i2 : h_pl ws ji b (.int (nI wi))) (d1 : h_px ws ts jm 27 59 jd ad) (d2 : h_pl ws jd b (.int (nI dr))) (c1 : h_px ws ts jm 11 49 jc ac) (c2 : h_pl ws jc b (.int (nI c))) (r1 : h_px ws ts jm 12 50 jr ar) (r2 : h_pl ws jr b (.int (nI r))) (hnn : h_nn ln hu wk ti wi dr c r) : z_Pf ws ts [(0, 35, (0, 2147483648 + b, 2147483648 + b)), (0, 7, (0, 2147483648, 2147485248)), (0, 4, (0, 2147483648, 2147483648)), (0, 13, (1, 43, 0)), (4, b, (0, 2147483648, 2147483661)), (0, 14, (1, 44, 0)), (6, b, (0, 2147483648, 2147483652)), (0, 16, (1, 51, 0)), (8, b, (0, 2147483648, 2147483653)), (0, 25, (1, 57, 0)), (10, b, (0, 2147483648, 2147483649)), (0, 26, (1, 58, 0)), (12, b, (0, 2147483648, 2147483649)), (0, 27, (1, 59, 0)), (14, b, (0, 2147483648, 2147483649)), (0, 11, (1, 49, 0)), (16, b, (0, 2147483650, 2147483653)), (0, 12, (1, 50, 0)), (18, b, (0, 2147483650, 2147483653))] [.ref am] (h_bvl am b x7 ln hu wk ti wi dr c r al ah aw ax ai ad ac ar) := by
  obtain ⟨m1, m2, m3, m4, m5, m6, m7, m8, m9⟩ := hnn
  refine n35.pf' (bv' := [.ref am, .int (nI b)]) hm1 rfl (h_tvn (by omega) (Nat.le_refl _) (Nat.le_refl _)) rfl ?_
  refine h71.pf' (bv' := [.ref am, .int (nI b), .int x7]) hm1 rfl (Or.inl ⟨rfl, _, rfl, h72, h73⟩) rfl ?_
  refine h4.pf' (bv' := [.ref am, .int (nI b), .int x7, .int (nI 0)]) hm1 rfl (h_tvn (by omega) (by omega) (by omega)) rfl ?_
  refine l1.1.pf' (bv' := [.ref am, .int (nI b), .int x7, .int (nI 0), .ref al]) hm1 rfl (h_tvr l1.2.1 l1.2.2) rfl ?_
  refine l2.pf' (bv' := [.ref am, .int (nI b), .int x7, .int (nI 0), .ref al, .int (nI ln)]) l1.2.1 rfl (h_tvn (by omega) (by omega) (by omega)) rfl ?_
  refine k1.1.pf' (bv' := [.ref am, .int (nI b), .int x7, .int (nI 0), .ref al, .int (nI ln), .ref ah]) hm1 rfl (h_tvr k1.2.1 k1.2.2) rfl ?_
  refine k2.pf' (bv' := [.ref am, .int (nI b), .int x7, .int (nI 0), .ref al, .int (nI ln), .ref ah, .int (nI hu)]) k1.2.1 rfl (h_tvn (by omega) (by omega) (by omega)) rfl ?_
  refine w1.1.pf' (bv' := [.ref am, .int (nI b), .int x7, .int (nI 0), .ref al, .int (nI ln), .ref ah, .int (nI hu), .ref aw]) hm1 rfl (h_tvr w1.2.1 w1.2.2) rfl ?_
  refine w2.pf' (bv' := [.ref am, .int (nI b), .int x7, .int (nI 0), .ref al, .int (nI ln), .ref ah, .int (nI hu), .ref aw, .int (nI wk)]) w1.2.1 rfl (h_tvn (by omega) (by omega) (by omega)) rfl ?_
  refine t1.1.pf' (bv' := [.ref am, .int (nI b), .int x7, .int (nI 0), .ref al, .int (nI ln), .ref ah, .int (nI hu), .ref aw, .int (nI wk), .ref ax]) hm1 rfl (h_tvr t1.2.1 t1.2.2) rfl ?_
  refine t2.pf' (bv' := [.ref am, .int (nI b), .int x7, .int (nI 0), .ref al, .int (nI ln), .ref ah, .int (nI hu), .ref aw, .int (nI wk), .ref ax, .int (nI ti)]) t1.2.1 rfl (h_tvn (by omega) (by omega) (by omega)) rfl ?_
  refine i1.1.pf' (bv' := [.ref am, .int (nI b), .int x7, .int (nI 0), .ref al, .int (nI ln), .ref ah, .int (nI hu), .ref aw, .int (nI wk), .ref ax, .int (nI ti), .ref ai]) hm1 rfl (h_tvr i1.2.1 i1.2.2) rfl ?_
  refine i2.pf' (bv' := [.ref am, .int (nI b), .int x7, .int (nI 0), .ref al, .int (nI ln), .ref ah, .int (nI hu), .ref aw, .int (nI wk), .ref ax, .int (nI ti), .ref ai, .int (nI wi)]) i1.2.1 rfl (h_tvn (by omega) (by omega) (by omega)) rfl ?_
  refine d1.1.pf' (bv' := [.ref am, .int (nI b), .int x7, .int (nI 0), .ref al, .int (nI ln), .ref ah, .int (nI hu), .ref aw, .int (nI wk), .ref ax, .int (nI ti), .ref ai, .int (nI wi), .ref ad]) hm1 rfl (h_tvr d1.2.1 d1.2.2) rfl ?_
  refine d2.pf' (bv' := [.ref am, .int (nI b), .int x7, .int (nI 0), .ref al, .int (nI ln), .ref ah, .int (nI hu), .ref aw, .int (nI wk), .ref ax, .int (nI ti), .ref ai, .int (nI wi), .ref ad, .int (nI dr)]) d1.2.1 rfl (h_tvn (by omega) (by omega) (by omega)) rfl ?_
  refine c1.1.pf' (bv' := [.ref am, .int (nI b), .int x7, .int (nI 0), .ref al, .int (nI ln), .ref ah, .int (nI hu), .ref aw, .int (nI wk), .ref ax, .int (nI ti), .ref ai, .int (nI wi), .ref ad, .int (nI dr), .ref ac]) hm1 rfl (h_tvr c1.2.1 c1.2.2) rfl ?_
  refine c2.pf' (bv' := [.ref am, .int (nI b), .int x7, .int (nI 0), .ref al, .int (nI ln), .ref ah, .int (nI hu), .ref aw, .int (nI wk), .ref ax, .int (nI ti), .ref ai, .int (nI wi), .ref ad, .int (nI dr), .ref ac, .int (nI c)]) c1.2.1 rfl (h_tvn (by omega) (by omega) (by omega)) rfl ?_
  refine r1.1.pf' (bv' := [.ref am, .int (nI b), .int x7, .int (nI 0), .ref al, .int (nI ln), .ref ah, .int (nI hu), .ref aw, .int (nI wk), .ref ax, .int (nI ti), .ref ai, .int (nI wi), .ref ad, .int (nI dr), .ref ac, .int (nI c), .ref ar]) hm1 rfl (h_tvr r1.2.1 r1.2.2) rfl ?_
  refine r2.pf' (bv' := [.ref am, .int (nI b), .int x7, .int (nI 0), .ref al, .int (nI ln), .ref ah, .int (nI hu), .ref aw, .int (nI wk), .ref ax, .int (nI ti), .ref ai, .int (nI wi), .ref ad, .int (nI dr), .ref ac, .int (nI c), .ref ar, .int (nI r)]) r1.2.1 rfl (h_tvn (by omega) (by omega) (by omega)) rfl ?_
  rfl
theorem h_m_line (hA : z_A0 l base D sa) {jm am b ln : Nat} (hb : b < 2) (hm1 : (q_ad ws)[jm]? = some am) (hm2 : ts[jm]? = some 40) (h4 : h_pl ws jm 4 (.int (nI 0))) (hx : h_nbx jm b ln ws ts) : z_Met l base D sa z_tt (h_krl b) (8, 0) 269 [.ref am] ws ts (h_prl jm b ln) := by
  have hok := hA.2.1
  have hcl := hA.1
  obtain ⟨hu, wk, ti, wi, dr, c, r, ⟨⟨n35, n7⟩, ⟨n13, n14, n16, n25, n26, n27, n11, n12⟩, nh, nc⟩, hnn⟩ := hx
  obtain ⟨m1, m2, m3, m4, m5, m6, m7, m8, m9⟩ := id hnn
  refine y_meth (J := fun _ _ => True) (hok 269 (by decide)) (fun v hv => by rcases List.mem_singleton.mp hv with rfl; rfl) (show 1 ≤ 3 by decide) (fun _ _ _ => trivial) ?_
  intro p e s m below meth cc X hX hC hQ
  have hi : y_i X = 269 := by rw [hX]
  have htt : y_tt X = z_tt := by rw [hX]
  have hkw : y_kw X = h_krl b := by rw [hX]
  have hl : y_l X = l ∧ y_b X = base ∧ y_D X = D ∧ y_sa X = sa := by rw [hX]; exact ⟨rfl, rfl, rfl, rfl⟩
  have hd : y_d X = (8, 0) := by rw [hX]
  clear hX
  obtain ⟨x7, h71, h72, h73⟩ := id n7
  obtain ⟨jl, al, l1, l2⟩ := id n13
  obtain ⟨jh, ah, k1, k2⟩ := id n14
  obtain ⟨jw, aw, w1, w2⟩ := id n16
  obtain ⟨jt, ax, t1, t2⟩ := id n25
  obtain ⟨ji, ai, i1, i2⟩ := id n26
  obtain ⟨jd, ad, d1, d2⟩ := id n27
  obtain ⟨jc, ac, c1, c2⟩ := id n11
  obtain ⟨jr, ar, r1, r2⟩ := id n12
  have hpf := h_rl_pf hb hm1 n35 h71 h72 h73 h4 l1 l2 k1 k2 w1 w2 t1 t2 i1 i2 d1 d2 c1 c2 r1 r2 hnn
  have hta : z_Ta (q_ad ws) ts [(1, 40, 0)] [.ref am] := ⟨h_tvr hm1 hm2, trivial⟩
  show Y X 0 0 [some (.ref am), none, none] [] ws ts
  refine v_y (fun ls hL => ?_)
  obtain ⟨lv, lv1, -, lv3⟩ := hL.2
  rw [hi] at lv1
  have hlv : ∀ k v, [Value.ref am][k]? = some v → (k, v) ∈ lv := fun k v hk => lv3 k v (by
    match k, hk with
    | 0, hk => cases hk; rfl
    | k + 1, hk => cases hk)
  have hcat : ∀ v ∈ [Value.ref am], v.category = 1 := fun v hv => by
    rcases List.mem_singleton.mp hv with rfl
    rfl
  have ret : ∀ (M : z_M) (R : z_R) (v : Option Value) (ws4 : va_W) (ts4 : List Nat), va_D (q_A base) ws4 → z_Fr (h_kr0 b) ws ts ws4 ts4 → z_altP M (h_bvl am b x7 ln hu wk ti wi dr c r al ah aw ax ai ad ac ar) ws4 ts4 R → (R = h_R0 ∨ R = h_R1 b ∨ R = h_R2 b ∨ R = h_R3 b ∨ R = h_R4 b) → v.toList = [] → h_prl jm b ln v ws4 ts4 := by
    intro M R v ws4 ts4 hD4 hF4 hal hR hv4
    refine ⟨h_none hv4, ?_⟩
    rcases hR with rfl | rfl | rfl | rfl | rfl
    · exact Or.inl (h_fbo hD4 (z_gm hF4.2.1 hm1) rfl (hal.1.2 _ List.mem_cons_self))
    · exact Or.inr (h_ret1 hb hm1 hm2 l1 k1 w1 t1 i1 d1 c1 r1 nh nc hnn hD4 hF4 hal)
    · exact Or.inr (h_ret2 hb hm1 hm2 l1 k1 w1 t1 i1 d1 c1 r1 nh nc hnn hD4 hF4 hal)
    · exact Or.inr (h_ret3 hb hm1 hm2 l1 k1 w1 t1 i1 d1 c1 r1 nh nc hnn hD4 hF4 hal)
    · exact Or.inr (h_ret4 hb hm1 hm2 l1 k1 w1 t1 i1 d1 c1 r1 nh nc hnn hD4 hF4 hal)
  have stw : ∀ (M : z_M) (ls' : Array Slot) (lv' : List (Nat × Value)) (ws4 : va_W) (ts4 : List Nat), lv_has ls' 3 lv' → ls'[0]? = some (.val (.ref am)) → ls'[1]? = some (.val (.long (z_lcv 4))) → va_D (q_A base) ws4 → z_Fr (h_kr0 b) ws ts ws4 ts4 → z_altP M (h_bvl am b x7 ln hu wk ti wi dr c r al ah aw ax ai ad ac ar) ws4 ts4 (h_Rw b) → y_V X 0 110 ls' [] ws4 ts4 := by
    intro M ls' lv' ws4 ts4 hlv' h0 h1 hD4 hF4 hal
    obtain ⟨z1, z2⟩ := h_stw hb hm1 hm2 l1 k1 w1 t1 i1 d1 c1 r1 nh nc hnn hD4 hF4 hal
    exact h_rl_walker hA rfl hC hQ hl htt hi hkw hd hlv' h0 h1 hb (z_gm hF4.2.1 hm1) (z_gm hF4.1 hm2) z1 z2 hnn
  have stt : ∀ (M : z_M) (ls' : Array Slot) (lv' : List (Nat × Value)) (ws4 : va_W) (ts4 : List Nat), lv_has ls' 3 lv' → ls'[0]? = some (.val (.ref am)) → ls'[1]? = some (.val (.long (z_lcv 8))) → va_D (q_A base) ws4 → z_Fr (h_kr0 b) ws ts ws4 ts4 → z_altP M (h_bvl am b x7 ln hu wk ti wi dr c r al ah aw ax ai ad ac ar) ws4 ts4 (h_Rt b) → y_V X 0 122 ls' [] ws4 ts4 := by
    intro M ls' lv' ws4 ts4 hlv' h0 h1 hD4 hF4 hal
    obtain ⟨z1, z2⟩ := h_stt hb hm1 hm2 l1 k1 w1 t1 i1 d1 c1 r1 nh nc hnn hD4 hF4 hal
    exact h_rl_tide hA rfl hC hQ hl htt hi hkw hd hlv' h0 h1 hb (z_gm hF4.2.1 hm1) (z_gm hF4.1 hm2) z1 z2 hnn
  clear nh nc n35 n7 n13 n14 n16 n25 n26 n27 n11 n12 h71 l2 k2 w2 t2 i2 d2 c2 r2
  rcases (show b = 0 ∨ b = 1 by omega) with rfl | rfl
  · refine y_runs (J := fun _ _ => True) (M := z_m_rl0) (av := [.ref am]) hA hC hl htt hi (by decide) hd hcat lv1 hlv hta hpf (z_P_rl0 hA) (fun _ _ _ => trivial) (by rw [hkw]; exact h_wsub (by decide)) z_k_rl0 ?_
    intro cs o vs2 vs' ls' sv ws4 ts4 tys4 hchk hcs hw4 hD4 hF4 hv4 hL4 hs4
    unfold z_c_rl0 at hchk
    obtain ⟨lv', l1', -⟩ := hL4.2
    cases hb9 : Nat.beq o.1 110 with
    | true =>
      rw [hb9] at hchk
      obtain ⟨e1, hchk⟩ := q_ands hchk
      obtain ⟨e2, hchk⟩ := q_ands hchk
      obtain ⟨e3, e4⟩ := q_ands hchk
      have hsv := z_alt_nil e4 hs4
      subst hsv
      rw [q_beq.mp e3, q_beq.mp hb9]
      exact stw _ ls' lv' ws4 ts4 l1' (z_this e1 hv4 hL4 hcs rfl) (z_long1 e2 hv4 hL4) hD4 hF4 (z_alt_s e4 hv4 hs4 hcs)
    | false =>
      rw [hb9] at hchk
      cases hb8 : Nat.beq o.1 122 with
      | true =>
        rw [hb8] at hchk
        obtain ⟨e1, hchk⟩ := q_ands hchk
        obtain ⟨e2, hchk⟩ := q_ands hchk
        obtain ⟨e3, e4⟩ := q_ands hchk
        have hsv := z_alt_nil e4 hs4
        subst hsv
        rw [q_beq.mp e3, q_beq.mp hb8]
        exact stt _ ls' lv' ws4 ts4 l1' (z_this e1 hv4 hL4 hcs rfl) (z_long1 e2 hv4 hL4) hD4 hF4 (z_alt_s e4 hv4 hs4 hcs)
      | false =>
        rw [hb8] at hchk
        obtain ⟨e1, e2⟩ := q_ands hchk
        obtain ⟨R, R1, R2⟩ := z_any_iff.mp e2
        have hsv := z_alt_nil R2 hs4
        subst hsv
        exact y_rend hok hC hQ hi (by decide) hd e1 hv4 hL4 hs4 (fun v hv9 => ret _ R v ws4 ts4 hD4 hF4 (z_alt_s R2 hv4 hs4 hcs) (by
          rcases List.mem_cons.mp R1 with rfl | R1
          · exact Or.inl rfl
          rcases List.mem_cons.mp R1 with rfl | R1
          · exact Or.inr (Or.inl rfl)
          rcases List.mem_cons.mp R1 with rfl | R1
          · exact Or.inr (Or.inr (Or.inl rfl))
          rcases List.mem_cons.mp R1 with rfl | R1
          · exact Or.inr (Or.inr (Or.inr (Or.inl rfl)))
          rcases List.mem_singleton.mp R1 with rfl
          exact Or.inr (Or.inr (Or.inr (Or.inr rfl)))) hv9)
  · refine y_runs (J := fun _ _ => True) (M := z_m_rl1) (av := [.ref am]) hA hC hl htt hi (by decide) hd hcat lv1 hlv hta hpf (z_P_rl1 hA) (fun _ _ _ => trivial) (by rw [hkw]; exact h_wsub (by decide)) z_k_rl1 ?_
    intro cs o vs2 vs' ls' sv ws4 ts4 tys4 hchk hcs hw4 hD4 hF4 hv4 hL4 hs4
    unfold z_c_rl1 at hchk
    obtain ⟨lv', l1', -⟩ := hL4.2
    cases hb9 : Nat.beq o.1 110 with
    | true =>
      rw [hb9] at hchk
      obtain ⟨e1, hchk⟩ := q_ands hchk
      obtain ⟨e2, hchk⟩ := q_ands hchk
      obtain ⟨e3, e4⟩ := q_ands hchk
      have hsv := z_alt_nil e4 hs4
      subst hsv
      rw [q_beq.mp e3, q_beq.mp hb9]
      exact stw _ ls' lv' ws4 ts4 l1' (z_this e1 hv4 hL4 hcs rfl) (z_long1 e2 hv4 hL4) hD4 hF4 (z_alt_s e4 hv4 hs4 hcs)
    | false =>
      rw [hb9] at hchk
      cases hb8 : Nat.beq o.1 122 with
      | true =>
        rw [hb8] at hchk
        obtain ⟨e1, hchk⟩ := q_ands hchk
        obtain ⟨e2, hchk⟩ := q_ands hchk
        obtain ⟨e3, e4⟩ := q_ands hchk
        have hsv := z_alt_nil e4 hs4
        subst hsv
        rw [q_beq.mp e3, q_beq.mp hb8]
        exact stt _ ls' lv' ws4 ts4 l1' (z_this e1 hv4 hL4 hcs rfl) (z_long1 e2 hv4 hL4) hD4 hF4 (z_alt_s e4 hv4 hs4 hcs)
      | false =>
        rw [hb8] at hchk
        obtain ⟨e1, e2⟩ := q_ands hchk
        obtain ⟨R, R1, R2⟩ := z_any_iff.mp e2
        have hsv := z_alt_nil R2 hs4
        subst hsv
        exact y_rend hok hC hQ hi (by decide) hd e1 hv4 hL4 hs4 (fun v hv9 => ret _ R v ws4 ts4 hD4 hF4 (z_alt_s R2 hv4 hs4 hcs) (by
          rcases List.mem_cons.mp R1 with rfl | R1
          · exact Or.inl rfl
          rcases List.mem_cons.mp R1 with rfl | R1
          · exact Or.inr (Or.inl rfl)
          rcases List.mem_cons.mp R1 with rfl | R1
          · exact Or.inr (Or.inr (Or.inl rfl))
          rcases List.mem_cons.mp R1 with rfl | R1
          · exact Or.inr (Or.inr (Or.inr (Or.inl rfl)))
          rcases List.mem_singleton.mp R1 with rfl
          exact Or.inr (Or.inr (Or.inr (Or.inr rfl)))) hv9)
end HK
