/-! ===== by hand: exchange, undo, redo ===== -/
theorem h_setsame {α : Type} (l : List α) (i : Nat) (x : α) (hx : l[i]? = some x) : l.set i x = l := by
  refine List.ext_getElem? (fun k => ?_)
  by_cases ek : i = k
  · subst ek
    rw [List.getElem?_set_self (List.getElem?_eq_some_iff.mp hx).1, hx]
  · rw [List.getElem?_set_ne ek]
def h_kexch : List z_C := [(66, 2147483648, 2147484085), (67, 2147483648, 2147501605)]
section HK
variable {l : Launch} {base : Nat} {D : va_G} {sa : Nat → Nat} {ws : va_W} {ts : List Nat}
theorem h_m_exch (hok : ∀ i, i < q_nM → q_mok i) (hcl : q_clok) {jm am A1 n N : Nat} (hm1 : (q_ad ws)[jm]? = some am) (hm2 : ts[jm]? = some 40) (h43 : h_pl ws jm 43 (.int (nI A1))) (hA1 : A1 < n) (hn : n ≤ 40) (j3 : h_Ja jm N ws ts) (j4 : h_Jw jm n N ws ts) : z_Met l base D sa z_tt h_kexch (0, 0) 247 [.ref am] ws ts (fun v ws' ts' => v = none ∧ h_Ja jm N ws' ts' ∧ h_Jw jm n N ws' ts') := by
  refine z_ofW (fun tys hw hD => ?_)
  obtain ⟨fs, o1, o2, o3⟩ := h_obj hw hm1 hm2 rfl
  have o1 : ws[jm]? = some (am, .inr (9, fs)) := o1
  have o2 : fs.length = 68 := o2
  obtain ⟨ja, aa, a1, a2⟩ := j3
  obtain ⟨jw, aw, w1, w2⟩ := j4
  obtain ⟨cA, fa, ra⟩ := a1.see hw o1 rfl
  obtain ⟨cW, fw, rw0⟩ := w1.see hw o1 rfl
  have ra : h_row ws ts fs 41 66 438 ja aa cA fa := ra
  have rw0 : h_row ws ts fs 42 67 17958 jw aw cW fw := rw0
  have hA := h43.fld o1
  have ga : ∀ w, (w < 5 ∨ w = 435) → q_qb (fa w) < 2147483648 + h_bn N w := fun w hw => ra.lt (by omega) (a2 w hw)
  have gw : ∀ k w, k < n → (w < 5 ∨ w = 435) → q_qb (fw (438 * k + w)) < 2147483648 + h_bn N w := fun k w hk hw => rw0.lt (by omega) (w2 k w hk hw)
  have njm : ¬ jw = jm := h_tne rw0.2.2 hm2 (by decide)
  have nja : ¬ jw = ja := h_tne rw0.2.2 ra.2.2 (by decide)
  have njb : ¬ ja = jm := h_tne ra.2.2 hm2 (by decide)
  clear hw hD
  refine y_meth (J := fun _ _ => True) (hok 247 (by decide)) (fun v hv => by rcases List.mem_singleton.mp hv with rfl; rfl) (show 1 ≤ 3 by decide) (fun _ _ _ => trivial) ?_
  intro p e s m below meth c X hX hC hQ
  have hi : y_i X = 247 := by rw [hX]
  have htt : y_tt X = z_tt := by rw [hX]
  have hkw : y_kw X = h_kexch := by rw [hX]
  clear hX
  have E := y_Ei hok hi (by decide) (cd := q_cd247) rfl
  have key : ∃ Wd : (Nat → Int32) → (Nat → Int32) → va_W, Wd fw fa = ws ∧ (∀ f g, (Wd f g)[jm]? = some (am, .inr (9, fs))) ∧ (∀ f g, (Wd f g)[jw]? = some (aw, .inl (cW, 17958, .inl f))) ∧ (∀ f g, (Wd f g)[ja]? = some (aa, .inl (cA, 438, .inl g))) ∧ (∀ f g h, (Wd f g).set jw (aw, .inl (cW, 17958, .inl h)) = Wd h g) ∧ (∀ f g h, (Wd f g).set ja (aa, .inl (cA, 438, .inl h)) = Wd f h) := by
    have la := (List.getElem?_eq_some_iff.mp ra.2.1).1
    have lw := (List.getElem?_eq_some_iff.mp rw0.2.1).1
    refine ⟨fun f g => (ws.set jw (aw, .inl (cW, 17958, .inl f))).set ja (aa, .inl (cA, 438, .inl g)), ?_, fun f g => ?_, fun f g => ?_, fun f g => ?_, fun f g h => ?_, fun f g h => ?_⟩
    · show (ws.set jw (aw, .inl (cW, 17958, .inl fw))).set ja (aa, .inl (cA, 438, .inl fa)) = ws
      rw [h_setsame ws jw _ rw0.2.1, h_setsame ws ja _ ra.2.1]
    · exact h_getset (h_getset o1 njm) njb
    · exact h_getset (List.getElem?_set_self lw) (fun e => nja e.symm)
    · exact List.getElem?_set_self (by rw [List.length_set]; exact la)
    · show (((ws.set jw (aw, .inl (cW, 17958, .inl f))).set ja (aa, .inl (cA, 438, .inl g))).set jw (aw, .inl (cW, 17958, .inl h))) = _
      rw [List.set_comm _ _ (fun e => nja e.symm), List.set_set]
    · exact List.set_set ..
  obtain ⟨Wd, e0, gm, gj, gA, sw, sa9⟩ := key
  have hwr : ∀ q, q < 17958 → z_wr (y_kw X) 67 q := fun q hq => by rw [hkw]; exact h_wrm (List.mem_cons_of_mem _ (List.mem_singleton.mpr rfl)) (by omega) (by omega)
  have hwa : ∀ q, q < 438 → z_wr (y_kw X) 66 q := fun q hq => by rw [hkw]; exact h_wrm List.mem_cons_self (by omega) (by omega)
  have loop : ∀ (m c : Nat) (f g : Nat → Int32) (x : Option Value), 438 - c = m → c ≤ 438 → (∀ k w, k < n → (w < 5 ∨ w = 435) → q_qb (f (438 * k + w)) < 2147483648 + h_bn N w) → (∀ w, (w < 5 ∨ w = 435) → q_qb (g w) < 2147483648 + h_bn N w) → Y X 0 2 [some (.ref am), some (.int (nI c)), x] [] (Wd f g) ts := by
    intro m
    induction m with
    | zero =>
      intro c f g x hm hc hf hg
      have e : c = 438 := by omega
      subst e
      refine y_iln hC (E 2 _ rfl) rfl ?_
      refine y_sp hC (E 3 _ rfl) ?_
      refine y_cmp hC (E 4 _ rfl) (fun _ => ?_) (fun h => ?_)
      · have r8 : h_row (Wd f g) ts fs 41 66 438 ja aa cA g := ⟨ra.1, gA f g, ra.2.2⟩
        have r9 : h_row (Wd f g) ts fs 42 67 17958 jw aw cW f := ⟨rw0.1, gj f g, rw0.2.2⟩
        exact y_vr hC hQ (E 35 _ rfl) (Nat.zero_le _) ⟨rfl, ⟨ja, aa, r8.px (gm f g), fun w hw => r8.mk (by omega) (hg w hw)⟩, ⟨jw, aw, r9.px (gm f g), fun k w hk hw => r9.mk (by omega) (hf k w hk hw)⟩⟩
      · exact absurd h (nI_nlt (Nat.le_refl _) (by omega))
    | succ m IH =>
      intro c f g x hm hc hf hg
      have hlt : c < 438 := by omega
      refine y_iln hC (E 2 _ rfl) rfl ?_
      refine y_sp hC (E 3 _ rfl) ?_
      refine y_cmp hC (E 4 _ rfl) (fun h => ?_) (fun _ => ?_)
      · exact absurd h (nI_ge hlt (by omega))
      refine y_ty (fun tys hw hD => ?_)
      rw [htt] at hw
      have ty := h_typ hw (gA f g) ra.2.2 rfl c hlt
      have tw := h_typ hw (gj f g) rw0.2.2 rfl (438 * A1 + c) (show 438 * A1 + c < 17958 by omega)
      have e9 : (438 * A1 + c) % 438 = c % 438 := Nat.mul_add_mod 438 A1 c
      refine y_aln hC (E 5 _ rfl) rfl ?_
      refine y_get hcl hC (E 6 _ rfl) (gm f g) rw0.1 ?_
      refine y_sp hC (E 7 _ rfl) ?_
      refine y_aln hC (E 8 _ rfl) rfl ?_
      refine y_get hcl hC (E 9 _ rfl) (gm f g) hA ?_
      refine y_mul hC (E 10 _ rfl) ?_
      rw [h_nmul]
      refine y_iln hC (E 11 _ rfl) rfl ?_
      refine y_add hC (E 12 _ rfl) ?_
      rw [nI_add]
      refine y_ald hC (E 13 _ rfl) (gj f g) rw0.2.2 (by rw [htt]; rfl) (show 438 * A1 + c < 17958 by omega) (by decide) ?_
      refine y_isn hC (E 14 _ rfl) ?_
      refine y_aln hC (E 15 _ rfl) rfl ?_
      refine y_get hcl hC (E 16 _ rfl) (gm f g) rw0.1 ?_
      refine y_sp hC (E 17 _ rfl) ?_
      refine y_aln hC (E 18 _ rfl) rfl ?_
      refine y_get hcl hC (E 19 _ rfl) (gm f g) hA ?_
      refine y_mul hC (E 20 _ rfl) ?_
      rw [h_nmul]
      refine y_iln hC (E 21 _ rfl) rfl ?_
      refine y_add hC (E 22 _ rfl) ?_
      rw [nI_add]
      refine y_aln hC (E 23 _ rfl) rfl ?_
      refine y_get hcl hC (E 24 _ rfl) (gm f g) ra.1 ?_
      refine y_iln hC (E 25 _ rfl) rfl ?_
      refine y_ald hC (E 26 _ rfl) (gA f g) ra.2.2 (by rw [htt]; rfl) hlt (by decide) ?_
      refine y_ast hC (E 27 _ rfl) (gj f g) rw0.2.2 (by rw [htt]; rfl) (show 438 * A1 + c < 17958 by omega) (by decide) ?_ (hwr _ (by omega)) ?_
      · rw [htt]
        show (z_el (z_tt 67).2.2.1 ((438 * A1 + c) % 438)).1 ≤ _ ∧ _ ≤ (z_el (z_tt 67).2.2.1 ((438 * A1 + c) % 438)).2
        rw [e9]
        exact ty
      rw [sw]
      refine y_aln hC (E 28 _ rfl) rfl ?_
      refine y_get hcl hC (E 29 _ rfl) (gm _ g) ra.1 ?_
      refine y_iln hC (E 30 _ rfl) rfl ?_
      refine y_iln hC (E 31 _ rfl) rfl ?_
      refine y_ast hC (E 32 _ rfl) (gA _ g) ra.2.2 (by rw [htt]; rfl) hlt (by decide) ?_ (hwa _ (by omega)) ?_
      · rw [htt]
        show (z_el (z_tt 67).2.2.1 (c % 438)).1 ≤ _ ∧ _ ≤ (z_el (z_tt 67).2.2.1 (c % 438)).2
        rw [← e9]
        exact tw
      rw [sa9]
      refine y_ii hC (E 33 _ rfl) rfl ?_
      refine y_go hC (E 34 _ rfl) ?_
      have := IH (c + 1) (upd f (438 * A1 + c) (g c)) (upd g c (f (438 * A1 + c))) (some (.int (f (438 * A1 + c)))) (by omega) (by omega) (fun k w hk hw => by
        by_cases ek : 438 * k + w = 438 * A1 + c
        · have ew : w = c := by omega
          rw [ek, pk_us, ew]
          exact hg c (by omega)
        · rw [pk_un ek]
          exact hf k w hk hw) (fun w hw => by
        by_cases ek : w = c
        · subst ek
          rw [pk_us]
          exact hf A1 w hA1 hw
        · rw [pk_un ek]
          exact hg w hw)
      rw [nI_succ] at this
      exact this
  show Y X 0 0 [some (.ref am), none, none] [] ws ts
  rw [← e0]
  refine y_ic hC (E 0 _ rfl) ?_
  refine y_isn hC (E 1 _ rfl) ?_
  exact loop (438 - 0) 0 fw fa none rfl (by decide) gw ga
def h_kundo : List z_C := [(66, 2147483648, 2147484085), (67, 2147483648, 2147501605), (40, 2147483691, 2147483692)]
theorem h_m_undo (hok : ∀ i, i < q_nM → q_mok i) (hcl : q_clok) {jm am : Nat} (hm1 : (q_ad ws)[jm]? = some am) (hj : h_Jp jm ws ts) : z_Met l base D sa z_tt h_kundo (1, 0) 171 [.ref am] ws ts (h_pv (h_Jp jm)) := by
  refine z_ofW (fun tys hw hD => ?_)
  obtain ⟨b, N, A, U, j1, j2, j3, j4, j5, j6⟩ := id hj
  have hm2 := j1.1
  obtain ⟨fs, o1, o2, o3⟩ := h_obj hw hm1 hm2 rfl
  have o1 : ws[jm]? = some (am, .inr (9, fs)) := o1
  have o2 : fs.length = 68 := o2
  have hA := j2.1.fld o1
  have hU := j2.2.1.fld o1
  have hAU := j2.2.2
  clear hw hD
  refine y_meth (J := fun _ _ => True) (hok 171 (by decide)) (fun v hv => by rcases List.mem_singleton.mp hv with rfl; rfl) (show 1 ≤ 1 by decide) (fun _ _ _ => trivial) ?_
  intro p e s m below meth c X hX hC hQ
  have hi : y_i X = 171 := by rw [hX]
  have htt : y_tt X = z_tt := by rw [hX]
  have hkw : y_kw X = h_kundo := by rw [hX]
  have hw0 : y_w0 X = ws := by rw [hX]
  have ht0 : y_t0 X = ts := by rw [hX]
  have hl : y_l X = l ∧ y_b X = base ∧ y_D X = D ∧ y_sa X = sa := by rw [hX]; exact ⟨rfl, rfl, rfl, rfl⟩
  have hd : y_d X = (1, 0) := by rw [hX]
  clear hX
  obtain ⟨rfl, rfl, rfl, rfl⟩ := hl
  have E := y_Ei hok hi (by decide) (cd := q_cd171) rfl
  have hwm : ∀ q, 43 ≤ q → q ≤ 44 → z_wr (y_kw X) 40 q := fun q h1 h2 => by rw [hkw]; exact h_wrm (List.mem_cons_of_mem _ (List.mem_cons_of_mem _ (List.mem_singleton.mpr rfl))) (by omega) (by omega)
  have hn : (0 : Nat) ≤ (y_d X).2 := Nat.zero_le _
  show Y X 0 0 [some (.ref am)] [] ws ts
  refine y_aln hC (E 0 _ rfl) rfl ?_
  refine y_get hcl hC (E 1 _ rfl) o1 hA ?_
  refine y_if hC (E 2 _ rfl) (fun h => ?_) (fun h => ?_)
  · have h : ¬ nI A = 0 := h
    have hA0 : ¬ A = 0 := fun e => h (by rw [e]; rfl)
    have es : nI A - nI 1 = nI (A - 1) := by
      have e1 : nI A = nI (A - 1) + nI 1 := by rw [nI_add]; congr 1; omega
      rw [e1, Int32.add_sub_cancel]
    refine y_aln hC (E 5 _ rfl) rfl ?_
    refine y_dup hC (E 6 _ rfl) rfl ?_
    refine y_get hcl hC (E 7 _ rfl) o1 hA ?_
    refine y_ic hC (E 8 _ rfl) ?_
    refine y_sub hC (E 9 _ rfl) ?_
    rw [es]
    refine y_put hcl hC (E 10 _ rfl) o1 hm2 (by rw [htt]; rfl) ?_ (by omega) (hwm 43 (by omega) (by omega)) (Or.inl ⟨rfl, _, rfl⟩) ?_
    · rw [htt]
      show z_tv _ ts (0, 2147483648, 2147483688) _
      exact h_tvn (by omega) (by omega) (by omega)
    have lm := (List.getElem?_eq_some_iff.mp o1).1
    have p1 : (ws.set jm (am, .inr (9, fs.set 43 (.int (nI (A - 1))))))[jm]? = some (am, .inr (9, fs.set 43 (.int (nI (A - 1))))) := List.getElem?_set_self lm
    refine y_aln hC (E 11 _ rfl) rfl ?_
    refine y_dup hC (E 12 _ rfl) rfl ?_
    refine y_get hcl hC (E 13 _ rfl) p1 (h_getset hU (by decide)) ?_
    refine y_ic hC (E 14 _ rfl) ?_
    refine y_add hC (E 15 _ rfl) ?_
    rw [nI_add]
    refine y_put hcl hC (E 16 _ rfl) p1 hm2 (by rw [htt]; rfl) ?_ (by rw [List.length_set]; omega) (hwm 44 (by omega) (by omega)) (Or.inl ⟨rfl, _, rfl⟩) ?_
    · rw [htt]
      show z_tv _ ts (0, 2147483648, 2147483688) _
      exact h_tvn (by omega) (by omega) (by omega)
    rw [List.set_set]
    generalize hg : (fs.set 43 (.int (nI (A - 1)))).set 44 (.int (nI (U + 1))) = g
    have g43 : g[43]? = some (.int (nI (A - 1))) := by rw [← hg]; exact h_getset (List.getElem?_set_self (by omega)) (by decide)
    have g44 : g[44]? = some (.int (nI (U + 1))) := by rw [← hg]; exact List.getElem?_set_self (by rw [List.length_set]; omega)
    have p2 : (ws.set jm (am, .inr (9, g)))[jm]? = some (am, .inr (9, g)) := List.getElem?_set_self lm
    refine y_aln hC (E 17 _ rfl) rfl ?_
    refine y_tyJ hC (fun tys hw hD _ hF => ?_)
    rw [hkw, hw0, ht0] at hF
    have k3 : h_Ja jm N (ws.set jm (am, .inr (9, g))) ts := by
      obtain ⟨ja, aa, a1, a2⟩ := j3
      refine ⟨ja, aa, ⟨?_, ?_, a1.2.2⟩, fun w hw => ?_⟩
      · exact ⟨am, _, p2, by show g[41]? = _; rw [← hg]; exact h_getset (h_getset (a1.1.fld o1) (by decide)) (by decide)⟩
      · rw [q_ad_set ws jm am _ _ o1]
        exact a1.2.1
      · obtain ⟨v, ⟨a9, e9, v1, v2⟩, v3⟩ := a2 w hw
        exact ⟨v, ⟨a9, e9, h_getset v1 (h_tne hm2 a1.2.2 (by decide)), v2⟩, v3⟩
    have k4 : h_Jw jm (A + U) N (ws.set jm (am, .inr (9, g))) ts := by
      obtain ⟨ja, aa, a1, a2⟩ := j4
      refine ⟨ja, aa, ⟨?_, ?_, a1.2.2⟩, fun k w hk hw => ?_⟩
      · exact ⟨am, _, p2, by show g[42]? = _; rw [← hg]; exact h_getset (h_getset (a1.1.fld o1) (by decide)) (by decide)⟩
      · rw [q_ad_set ws jm am _ _ o1]
        exact a1.2.1
      · obtain ⟨v, ⟨a9, e9, v1, v2⟩, v3⟩ := a2 k w hk hw
        exact ⟨v, ⟨a9, e9, h_getset v1 (h_tne hm2 a1.2.2 (by decide)), v2⟩, v3⟩
    refine y_vir hok hC (E 18 _ rfl) (by decide) (dd := (0, 0)) (As := []) (rv := []) (by rw [htt]; exact h_m_exch hok hcl (h_ad p2) hm2 ⟨am, _, p2, g43⟩ (show A - 1 < A + U by omega) hAU k3 k4) p2 rfl rfl (by rw [hd]; decide) hn h_cat0 (by rw [hkw]; exact h_wsub (fun e he => by
      rcases List.mem_cons.mp he with rfl | he
      · exact List.mem_cons_self
      rcases List.mem_singleton.mp he with rfl
      exact List.mem_cons_of_mem _ List.mem_cons_self)) (fun v ws' ts' hF2 hp => ?_)
    obtain ⟨rfl, q1, q2⟩ := hp
    refine y_ic hC (E 19 _ rfl) ?_
    have hF3 : z_Fr h_kundo ws ts ws' ts' := hF.trans (hF2.wide (h_wsub (fun e he => by
      rcases List.mem_cons.mp he with rfl | he
      · exact List.mem_cons_self
      rcases List.mem_singleton.mp he with rfl
      exact List.mem_cons_of_mem _ List.mem_cons_self)))
    have hJn : h_Jn jm (A - 1) (U + 1) (ws.set jm (am, .inr (9, g))) := ⟨⟨am, _, p2, g43⟩, ⟨am, _, p2, g44⟩, by omega⟩
    refine y_zr hC hQ (E 20 _ rfl) hn (by decide) ⟨⟨_, rfl⟩, b, N, A - 1, U + 1, ?_, ?_, q1, ?_, ?_, ?_⟩
    · exact j1.fr hF3 (h_offs (lo := 34) (hi := 34) rfl _ (by omega) (by omega)) (h_offs (lo := 11) (hi := 11) rfl _ (by omega) (by omega)) (h_offs (lo := 12) (hi := 12) rfl _ (by omega) (by omega)) (h_nots rfl _) (h_nots rfl _)
    · exact hJn.fr hF2 hm2 (h_nots rfl _) (h_nots rfl _)
    · rw [show A - 1 + (U + 1) = A + U by omega]
      exact q2
    · exact j5.fr hF3 hm2 (h_offs (lo := 66) (hi := 66) rfl _ (by omega) (by omega)) (h_offs (lo := 67) (hi := 67) rfl _ (by omega) (by omega)) (h_nots rfl) (h_nots rfl)
    · exact j6.fr hF3 hm2 (h_offs (lo := 16) (hi := 16) rfl _ (by omega) (by omega)) (h_offs (lo := 20) (hi := 20) rfl _ (by omega) (by omega)) (h_nots rfl _) (fun w _ => h_nots rfl _)
  · refine y_ic hC (E 3 _ rfl) ?_
    exact y_zr hC hQ (E 4 _ rfl) hn (by decide) ⟨⟨_, rfl⟩, hj⟩
theorem h_m_redo (hok : ∀ i, i < q_nM → q_mok i) (hcl : q_clok) {jm am : Nat} (hm1 : (q_ad ws)[jm]? = some am) (hj : h_Jp jm ws ts) : z_Met l base D sa z_tt h_kundo (1, 0) 173 [.ref am] ws ts (h_pv (h_Jp jm)) := by
  refine z_ofW (fun tys hw hD => ?_)
  obtain ⟨b, N, A, U, j1, j2, j3, j4, j5, j6⟩ := id hj
  have hm2 := j1.1
  obtain ⟨fs, o1, o2, o3⟩ := h_obj hw hm1 hm2 rfl
  have o1 : ws[jm]? = some (am, .inr (9, fs)) := o1
  have o2 : fs.length = 68 := o2
  have hA := j2.1.fld o1
  have hU := j2.2.1.fld o1
  have hAU := j2.2.2
  clear hw hD
  refine y_meth (J := fun _ _ => True) (hok 173 (by decide)) (fun v hv => by rcases List.mem_singleton.mp hv with rfl; rfl) (show 1 ≤ 1 by decide) (fun _ _ _ => trivial) ?_
  intro p e s m below meth c X hX hC hQ
  have hi : y_i X = 173 := by rw [hX]
  have htt : y_tt X = z_tt := by rw [hX]
  have hkw : y_kw X = h_kundo := by rw [hX]
  have hw0 : y_w0 X = ws := by rw [hX]
  have ht0 : y_t0 X = ts := by rw [hX]
  have hl : y_l X = l ∧ y_b X = base ∧ y_D X = D ∧ y_sa X = sa := by rw [hX]; exact ⟨rfl, rfl, rfl, rfl⟩
  have hd : y_d X = (1, 0) := by rw [hX]
  clear hX
  obtain ⟨rfl, rfl, rfl, rfl⟩ := hl
  have E := y_Ei hok hi (by decide) (cd := q_cd173) rfl
  have hwm : ∀ q, 43 ≤ q → q ≤ 44 → z_wr (y_kw X) 40 q := fun q h1 h2 => by rw [hkw]; exact h_wrm (List.mem_cons_of_mem _ (List.mem_cons_of_mem _ (List.mem_singleton.mpr rfl))) (by omega) (by omega)
  have hn : (0 : Nat) ≤ (y_d X).2 := Nat.zero_le _
  have hsub : ∀ t q, z_wr h_kexch t q → z_wr h_kundo t q := h_wsub (fun e he => by
      rcases List.mem_cons.mp he with rfl | he
      · exact List.mem_cons_self
      rcases List.mem_singleton.mp he with rfl
      exact List.mem_cons_of_mem _ List.mem_cons_self)
  show Y X 0 0 [some (.ref am)] [] ws ts
  refine y_aln hC (E 0 _ rfl) rfl ?_
  refine y_get hcl hC (E 1 _ rfl) o1 hU ?_
  refine y_if hC (E 2 _ rfl) (fun h => ?_) (fun h => ?_)
  · have h : ¬ nI U = 0 := h
    have hU0 : ¬ U = 0 := fun e => h (by rw [e]; rfl)
    have es : nI U - nI 1 = nI (U - 1) := by
      have e1 : nI U = nI (U - 1) + nI 1 := by rw [nI_add]; congr 1; omega
      rw [e1, Int32.add_sub_cancel]
    refine y_aln hC (E 5 _ rfl) rfl ?_
    refine y_vir hok hC (E 6 _ rfl) (by decide) (dd := (0, 0)) (As := []) (rv := []) (by rw [htt]; exact h_m_exch hok hcl hm1 hm2 j2.1 (show A < A + U by omega) hAU j3 j4) o1 rfl rfl (by rw [hd]; decide) hn h_cat0 (by rw [hkw]; exact hsub) (fun v ws1 ts1 hF2 hp => ?_)
    obtain ⟨rfl, q1, q2⟩ := hp
    refine y_ty (fun tys hw hD => ?_)
    rw [htt] at hw
    have hm3 : ts1[jm]? = some 40 := z_gm hF2.1 hm2
    have hm4 : (q_ad ws1)[jm]? = some am := z_gm hF2.2.1 hm1
    obtain ⟨g, u1, u2, u3⟩ := h_obj hw hm4 hm3 rfl
    have u1 : ws1[jm]? = some (am, .inr (9, g)) := u1
    have u2 : g.length = 68 := u2
    have gA := (j2.1.fr hF2 hm2 (h_nots rfl _)).fld u1
    have gU := (j2.2.1.fr hF2 hm2 (h_nots rfl _)).fld u1
    have lm := (List.getElem?_eq_some_iff.mp u1).1
    refine y_aln hC (E 7 _ rfl) rfl ?_
    refine y_dup hC (E 8 _ rfl) rfl ?_
    refine y_get hcl hC (E 9 _ rfl) u1 gA ?_
    refine y_ic hC (E 10 _ rfl) ?_
    refine y_add hC (E 11 _ rfl) ?_
    rw [nI_add]
    refine y_put hcl hC (E 12 _ rfl) u1 hm3 (by rw [htt]; rfl) ?_ (by omega) (hwm 43 (by omega) (by omega)) (Or.inl ⟨rfl, _, rfl⟩) ?_
    · rw [htt]
      show z_tv _ ts1 (0, 2147483648, 2147483688) _
      exact h_tvn (by omega) (by omega) (by omega)
    have p1 : (ws1.set jm (am, .inr (9, g.set 43 (.int (nI (A + 1))))))[jm]? = some (am, .inr (9, g.set 43 (.int (nI (A + 1))))) := List.getElem?_set_self lm
    refine y_aln hC (E 13 _ rfl) rfl ?_
    refine y_dup hC (E 14 _ rfl) rfl ?_
    refine y_get hcl hC (E 15 _ rfl) p1 (h_getset gU (by decide)) ?_
    refine y_ic hC (E 16 _ rfl) ?_
    refine y_sub hC (E 17 _ rfl) ?_
    rw [es]
    refine y_put hcl hC (E 18 _ rfl) p1 hm3 (by rw [htt]; rfl) ?_ (by rw [List.length_set]; omega) (hwm 44 (by omega) (by omega)) (Or.inl ⟨rfl, _, rfl⟩) ?_
    · rw [htt]
      show z_tv _ ts1 (0, 2147483648, 2147483688) _
      exact h_tvn (by omega) (by omega) (by omega)
    rw [List.set_set]
    generalize hg : (g.set 43 (.int (nI (A + 1)))).set 44 (.int (nI (U - 1))) = g2
    have g43 : g2[43]? = some (.int (nI (A + 1))) := by rw [← hg]; exact h_getset (List.getElem?_set_self (by omega)) (by decide)
    have g44 : g2[44]? = some (.int (nI (U - 1))) := by rw [← hg]; exact List.getElem?_set_self (by rw [List.length_set]; omega)
    have p2 : (ws1.set jm (am, .inr (9, g2)))[jm]? = some (am, .inr (9, g2)) := List.getElem?_set_self lm
    refine y_ic hC (E 19 _ rfl) ?_
    refine y_tyJ hC (fun tys hw hD _ hF => ?_)
    rw [hkw, hw0, ht0] at hF
    refine y_zr hC hQ (E 20 _ rfl) hn (by decide) ⟨⟨_, rfl⟩, b, N, A + 1, U - 1, ?_, ⟨⟨am, _, p2, g43⟩, ⟨am, _, p2, g44⟩, by omega⟩, ?_, ?_, ?_, ?_⟩
    · exact j1.fr hF (h_offs (lo := 34) (hi := 34) rfl _ (by omega) (by omega)) (h_offs (lo := 11) (hi := 11) rfl _ (by omega) (by omega)) (h_offs (lo := 12) (hi := 12) rfl _ (by omega) (by omega)) (h_nots rfl _) (h_nots rfl _)
    · obtain ⟨ja, aa, a1, a2⟩ := q1
      refine ⟨ja, aa, ⟨?_, ?_, a1.2.2⟩, fun w hw => ?_⟩
      · exact ⟨am, _, p2, by show g2[41]? = _; rw [← hg]; exact h_getset (h_getset (a1.1.fld u1) (by decide)) (by decide)⟩
      · rw [q_ad_set ws1 jm am _ _ u1]
        exact a1.2.1
      · obtain ⟨v, ⟨a9, e9, v1, v2⟩, v3⟩ := a2 w hw
        exact ⟨v, ⟨a9, e9, h_getset v1 (h_tne hm3 a1.2.2 (by decide)), v2⟩, v3⟩
    · rw [show A + 1 + (U - 1) = A + U by omega]
      obtain ⟨ja, aa, a1, a2⟩ := q2
      refine ⟨ja, aa, ⟨?_, ?_, a1.2.2⟩, fun k w hk hw => ?_⟩
      · exact ⟨am, _, p2, by show g2[42]? = _; rw [← hg]; exact h_getset (h_getset (a1.1.fld u1) (by decide)) (by decide)⟩
      · rw [q_ad_set ws1 jm am _ _ u1]
        exact a1.2.1
      · obtain ⟨v, ⟨a9, e9, v1, v2⟩, v3⟩ := a2 k w hk hw
        exact ⟨v, ⟨a9, e9, h_getset v1 (h_tne hm3 a1.2.2 (by decide)), v2⟩, v3⟩
    · exact j5.fr hF hm2 (h_offs (lo := 66) (hi := 66) rfl _ (by omega) (by omega)) (h_offs (lo := 67) (hi := 67) rfl _ (by omega) (by omega)) (h_nots rfl) (h_nots rfl)
    · exact j6.fr hF hm2 (h_offs (lo := 16) (hi := 16) rfl _ (by omega) (by omega)) (h_offs (lo := 20) (hi := 20) rfl _ (by omega) (by omega)) (h_nots rfl _) (fun w _ => h_nots rfl _)
  · refine y_ic hC (E 3 _ rfl) ?_
    exact y_zr hC hQ (E 4 _ rfl) hn (by decide) ⟨⟨_, rfl⟩, hj⟩
end HK
