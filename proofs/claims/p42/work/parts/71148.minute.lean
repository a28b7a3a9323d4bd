/-! ===== by hand: minute, goHome ===== -/
theorem h_nost {M : z_M} {bv : List Value} {ws : va_W} {ts : List Nat} (h : z_CP (z_mst M [(0, 34, (0, 1, 0))]) bv none ws ts) : False := by
  obtain ⟨a, j, e, r, -, -, -, h4⟩ := h.2 (0, 34, (0, 1, 0)) (List.mem_singleton.mpr rfl)
  obtain ⟨x, -, x1, x2⟩ := h_tvi h4
  omega
theorem h_setfr {kw : List z_C} {ws : va_W} {ts : List Nat} {j a t n q : Nat} {cA : ClassId} {f : Nat → Int32} {v : Int32} (he : ws[j]? = some (a, .inl (cA, n, .inl f))) (ht : ts[j]? = some t) (hw : z_wr kw t q) : z_Fr kw ws ts (ws.set j (a, .inl (cA, n, .inl (upd f q v)))) ts := (z_Fr.rf kw ws ts).set he ht (fun k v hk hnw => z_upd_in hk (fun e9 => hnw (by rw [e9]; exact hw)))
section HK
variable {l : Launch} {base : Nat} {D : va_G} {sa : Nat → Nat} {ws : va_W} {ts : List Nat}
theorem h_Jk.bd {tys : List (ClassId × FieldType)} {jm am b N : Nat} {fs : List Value} (hw : z_W z_tt ws tys ts) (j1 : h_Jk jm b N ws ts) (o1 : ws[jm]? = some (am, .inr (9, fs))) : ∃ fc fr : Nat → Int32, h_bd ws ts jm am fs b fc fr ∧ fc b * fr b = nI N ∧ 2147483650 ≤ q_qb (fc b) ∧ q_qb (fc b) ≤ 2147483653 := by
  obtain ⟨hm, hb, h34, hN, jc, ac, jr, ar, xc, xr, ⟨c1, c2⟩, ⟨r1, r2⟩, x1, x2, x3, x4⟩ := j1
  obtain ⟨cC, fc, rc⟩ := c1.see hw o1 rfl
  obtain ⟨cR, fr, rr⟩ := r1.see hw o1 rfl
  have rc : h_row ws ts fs 11 49 2 jc ac cC fc := rc
  have rr : h_row ws ts fs 12 50 2 jr ar cR fr := rr
  have e1 := rc.at hb c2
  have e2 := rr.at hb r2
  subst e1
  subst e2
  exact ⟨fc, fr, ⟨o1, hm, h34.fld o1, hb, ⟨jc, ac, cC, rc.1, rc.2.1, rc.2.2⟩, jr, ar, cR, rr.1, rr.2.1, rr.2.2⟩, x4, x1, x2⟩
theorem h_a435 {tys : List (ClassId × FieldType)} {ja aa : Nat} {cA : ClassId} {fa : Nat → Int32} (hw : z_W z_tt ws tys ts) (h2 : ws[ja]? = some (aa, .inl (cA, 438, .inl fa))) (h3 : ts[ja]? = some 66) : 2147483648 ≤ q_qb (fa 435) := (h_typ hw h2 h3 rfl 435 (show 435 < 438 by decide)).1
def h_kmin : List z_C := z_m_minute0.2.2.2.1 ++ h_kkeep
theorem h_m_minute (hA : z_A0 l base D sa) {jm am : Nat} (hm1 : (q_ad ws)[jm]? = some am) (hj : h_Jp jm ws ts) (hc : h_Jc jm ws ts) : z_Met l base D sa z_tt h_kmin (6, 0) 165 [.ref am] ws ts (h_pv (h_Jp jm)) := by
  have hok := hA.2.1
  have hcl := hA.1
  refine z_ofW (fun tys hw hD => ?_)
  obtain ⟨b0, N, A, U, j1, j2, j3, j4, j5, j6⟩ := id hj
  have hm2 := j1.1
  obtain ⟨fs, o1, o2, o3⟩ := h_obj hw hm1 hm2 rfl
  have o1 : ws[jm]? = some (am, .inr (9, fs)) := o1
  obtain ⟨ja, aa, a1, a2⟩ := id j3
  obtain ⟨cA, fa, ra⟩ := a1.see hw o1 rfl
  have ra : h_row ws ts fs 41 66 438 ja aa cA fa := ra
  have t435 := h_a435 hw ra.2.1 ra.2.2
  have u435 : q_qb (fa 435) < 2147483648 + 1000 := ra.lt (by decide) (a2 435 (Or.inr rfl))
  clear hw hD
  refine y_meth (J := fun _ _ => True) (hok 165 (by decide)) (fun v hv => by rcases List.mem_singleton.mp hv with rfl; rfl) (show 1 ≤ 3 by decide) (fun _ _ _ => trivial) ?_
  intro p e s m below meth c X hX hC hQ
  have hi : y_i X = 165 := by rw [hX]
  have htt : y_tt X = z_tt := by rw [hX]
  have hkw : y_kw X = h_kmin := by rw [hX]
  have hl : y_l X = l ∧ y_b X = base ∧ y_D X = D ∧ y_sa X = sa := by rw [hX]; exact ⟨rfl, rfl, rfl, rfl⟩
  have hd : y_d X = (6, 0) := by rw [hX]
  clear hX
  have hl' := hl
  obtain ⟨rfl, rfl, rfl, rfl⟩ := hl
  have E := y_Ei hok hi (by decide) (cd := q_cd165) rfl
  have hn : (0 : Nat) ≤ (y_d X).2 := Nat.zero_le _
  show Y X 0 0 [some (.ref am), none, none] [] ws ts
  refine y_aln hC (E 0 _ rfl) rfl ?_
  refine y_get hcl hC (E 1 _ rfl) o1 ra.1 ?_
  refine y_sp hC (E 2 _ rfl) ?_
  refine y_ald hC (E 3 _ rfl) ra.2.1 ra.2.2 (by rw [htt]; rfl) (show 435 < 438 by decide) (by decide) ?_
  refine y_sp hC (E 4 _ rfl) ?_
  refine y_cmp hC (E 5 _ rfl) (fun h => ?_) (fun _ => ?_)
  · have h : ¬ fa 435 = nI 999 := h
    have v435 : q_qb (fa 435) ≤ 2147484646 := by
      obtain ⟨k, k1, k2, k3⟩ := z_nat t435
      rw [k2] at h
      have : ¬ k = 999 := fun e => h (by rw [e])
      omega
    refine y_aln hC (E 8 _ rfl) rfl ?_
    refine y_vir hok hC (E 9 _ rfl) (by decide) (As := []) (rv := []) (dd := (0, 0)) (by rw [htt]; exact h_m_keep hok hcl hm1 hj) o1 rfl rfl (by rw [hd]; decide) hn h_cat0 (by rw [hkw]; exact h_wsub (fun e he => List.mem_append_right _ he)) (fun v ws1 ts1 hF1 hp => ?_)
    obtain ⟨rfl, hj1⟩ := hp
    refine y_ty (fun tys1 hw1 hD1 => ?_)
    have hm11 := z_gm hF1.2.1 hm1
    obtain ⟨b, N1, A1, U1, k1, k2, k3, k4, k5, k6⟩ := id hj1
    have hlane : h_pl ws1 ja 435 (.int (fa 435)) := (ra.pl (by decide)).fr hF1 ra.2.2 (h_nots rfl _)
    have hpx1 : h_px ws1 ts1 jm 41 66 ja aa := a1.fr hF1 hm2 (h_offs (lo := 41) (hi := 41) rfl _ (by omega) (by omega))
    have hc1 := hc.fr (by decide) hF1
    obtain ⟨ac, xc, hpf⟩ := k1.pf hm11 (av := [.ref am]) (na := 1) rfl rfl
    have hpf2 : z_Pf ws1 ts1 (h_bf 1 b ++ [(0, 41, (1, 66, 0)), (4, 435, (0, 2147483648, 2147484646))]) [.ref am] [.ref am, .int (nI b), .ref ac, .int xc, .ref aa, .int (fa 435)] := hpf _ _ (hpx1.1.pf hm11 rfl (h_tvr hpx1.2.1 hpx1.2.2) (hlane.pf hpx1.2.1 rfl (Or.inl ⟨rfl, _, rfl, t435, v435⟩) rfl))
    have hta : z_Ta (q_ad ws1) ts1 [(1, 40, 0)] [.ref am] := ⟨h_tvr hm11 k1.1, trivial⟩
    have fin : ∀ (M : z_M) (v : Option Value) (ws2 : va_W) (ts2 : List Nat), h_kJq M.2.2.2.1 = true → va_D (q_A (y_b X)) ws2 → z_Fr M.2.2.2.1 ws1 ts1 ws2 ts2 → M.2.2.2.2.2.2.2.2 = [(4, 435, (0, 2147483648, 2147484647))] → z_CP M [.ref am, .int (nI b), .ref ac, .int xc, .ref aa, .int (fa 435)] v ws2 ts2 → h_Jp jm ws2 ts2 := fun M v ws2 ts2 hk hD2 hF2 hM hcp => hj1.fr5 hk hF2 (fun j2 a2 hx2 => by
      obtain ⟨rfl, rfl⟩ := hpx1.uniq hD1 hx2
      obtain ⟨v, v1, -, v2⟩ := h_lane hD2 hF2 hpx1 (i := 4) (q := 435) rfl (hcp.2 (4, 435, (0, 2147483648, 2147484647)) (by rw [hM]; exact List.mem_singleton.mpr rfl))
      exact ⟨v, v1, by omega⟩)
    rcases (show b = 0 ∨ b = 1 by have := k1.2.1; omega) with rfl | rfl
    · exact y_z (J := h_Jc jm) (M := z_m_minute0) (av := [.ref am]) hA hC hQ ⟨rfl, rfl, rfl, rfl⟩ htt hi (by decide) hd (fun v hv => by rcases List.mem_singleton.mp hv with rfl; rfl) rfl hta hpf2 (z_p1 (r_com0 hA (z_JQ_c _ jm)) z_p0) (fun _ _ hf => hc1.fr (by decide) hf) (by rw [hkw]; exact h_wsub (fun e he => List.mem_append_left _ he)) z_k_minute0 (fun _ _ _ _ _ _ hcp => (h_nost hcp).elim) (fun v ws2 ts2 _ _ hD2 hF2 hcp => ⟨h_cpv rfl rfl hcp, fin _ v ws2 ts2 (by decide) hD2 hF2 rfl hcp⟩)
    · exact y_z (J := h_Jc jm) (M := z_m_minute1) (av := [.ref am]) hA hC hQ ⟨rfl, rfl, rfl, rfl⟩ htt hi (by decide) hd (fun v hv => by rcases List.mem_singleton.mp hv with rfl; rfl) rfl hta hpf2 (z_p1 (r_com1 hA (z_JQ_c _ jm)) z_p0) (fun _ _ hf => hc1.fr (by decide) hf) (by rw [hkw]; exact h_wsub (fun e he => List.mem_append_left _ he)) z_k_minute1 (fun _ _ _ _ _ _ hcp => (h_nost hcp).elim) (fun v ws2 ts2 _ _ hD2 hF2 hcp => ⟨h_cpv rfl rfl hcp, fin _ v ws2 ts2 (by decide) hD2 hF2 rfl hcp⟩)
  · refine y_ic hC (E 6 _ rfl) ?_
    exact y_ir hC hQ (E 7 _ rfl) hn ⟨⟨_, rfl⟩, hj⟩
def h_khome : List z_C := (66, 2147483648, 2147483652) :: z_m_goHome.2.2.2.1
theorem h_m_home (hA : z_A0 l base D sa) {jm am b N : Nat} (hm1 : (q_ad ws)[jm]? = some am) (j1 : h_Jk jm b N ws ts) (j3 : h_Ja jm N ws ts) (j6 : h_Jh jm b N ws ts) : z_Met l base D sa z_tt h_khome (1, 0) 81 [.ref am] ws ts (fun v ws' ts' => v = none ∧ h_Ja jm N ws' ts') := by
  have hok := hA.2.1
  have hcl := hA.1
  refine z_ofW (fun tys hw hD => ?_)
  have hm2 := j1.1
  have hb2 := j1.2.1
  obtain ⟨fs, o1, o2, o3⟩ := h_obj hw hm1 hm2 rfl
  have o1 : ws[jm]? = some (am, .inr (9, fs)) := o1
  have o2 : fs.length = 68 := o2
  obtain ⟨fc, fr, hbd, -⟩ := j1.bd hw o1
  obtain ⟨ja, aa, a1, a2⟩ := id j3
  obtain ⟨cA, fa, ra⟩ := a1.see hw o1 rfl
  have ra : h_row ws ts fs 41 66 438 ja aa cA fa := ra
  have ga : ∀ w, (w < 5 ∨ w = 435) → q_qb (fa w) < 2147483648 + h_bn N w := fun w hw => ra.lt (by omega) (a2 w hw)
  obtain ⟨ju, au, jh, ah, xu, ⟨u1, u2⟩, h1, h2⟩ := j6
  obtain ⟨cU, fu, ru⟩ := u1.see hw o1 rfl
  have ru : h_row ws ts fs 16 51 2 ju au cU fu := ru
  obtain ⟨cH, fh, rh⟩ := h1.see hw o1 rfl
  have rh : h_row ws ts fs 20 52 10 jh ah cH fh := rh
  have eu := ru.at hb2 u2
  subst eu
  have tu := h_b25 (n := 2) (by decide) (h_typ hw ru.2.1 ru.2.2 rfl) b hb2
  obtain ⟨u, uu, eu, -⟩ := z_nat tu.1
  have hu5 : u ≤ 5 := by
    have := tu.2
    rw [eu, z_qnI uu] at this
    omega
  have gh : ∀ w, w < u → q_qb (fh (5 * b + w)) < 2147483648 + N := fun w hw => rh.lt (by omega) (h2 w (by omega) (by rw [eu, z_qnI uu]; omega))
  have nhm : ¬ ja = jh := h_tne ra.2.2 rh.2.2 (by decide)
  have njm : ¬ ja = jm := h_tne ra.2.2 hm2 (by decide)
  have th := h_b25 (n := 10) (by decide) (h_typ hw rh.2.1 rh.2.2 rfl)
  clear hw hD
  refine y_meth (J := fun _ _ => True) (hok 81 (by decide)) (fun v hv => by rcases List.mem_singleton.mp hv with rfl; rfl) (show 1 ≤ 2 by decide) (fun _ _ _ => trivial) ?_
  intro p e s m below meth c X hX hC hQ
  have hi : y_i X = 81 := by rw [hX]
  have htt : y_tt X = z_tt := by rw [hX]
  have hkw : y_kw X = h_khome := by rw [hX]
  have hl : y_l X = l ∧ y_b X = base ∧ y_D X = D ∧ y_sa X = sa := by rw [hX]; exact ⟨rfl, rfl, rfl, rfl⟩
  have hd : y_d X = (1, 0) := by rw [hX]
  clear hX
  obtain ⟨rfl, rfl, rfl, rfl⟩ := hl
  have E := y_Ei hok hi (by decide) (cd := q_cd81) rfl
  have hn : (0 : Nat) ≤ (y_d X).2 := Nat.zero_le _
  have la := (List.getElem?_eq_some_iff.mp ra.2.1).1
  have loop : ∀ (m c : Nat) (f : Nat → Int32), u - c = m → c ≤ u → (∀ w, (w < 5 ∨ w = 435) → q_qb (f w) < 2147483648 + h_bn N w) → Y X 0 2 [some (.ref am), some (.int (nI c))] [] (ws.set ja (aa, .inl (cA, 438, .inl f))) ts := by
    intro m
    induction m with
    | zero =>
      intro c f hm hc hf
      have e : c = u := by omega
      subst e
      have hbd9 := hbd.set (e := (aa, .inl (cA, 438, .inl f))) ra.2.2 (by decide) (by decide) (by decide)
      have ru9 := ru.set (e := (aa, .inl (cA, 438, .inl f))) ra.2.2 (by decide)
      have qm : (ws.set ja (aa, .inl (cA, 438, .inl f)))[jm]? = some (am, .inr (9, fs)) := h_getset o1 njm
      refine y_iln hC (E 2 _ rfl) rfl ?_
      refine y_aln hC (E 3 _ rfl) rfl ?_
      refine y_virp hok hC (E 4 _ rfl) (by decide) (As := []) (rv := [.int (nI c)]) (by rw [htt]; exact h_m_many hok hcl hbd9 ru9) qm rfl rfl (by rw [hd]; decide) hn (show 1 ≤ 8 by decide) ?_
      rw [eu]
      refine y_cmp hC (E 5 _ rfl) (fun _ => ?_) (fun h => ?_)
      · have r9 : h_row (ws.set ja (aa, .inl (cA, 438, .inl f))) ts fs 41 66 438 ja aa cA f := ra.self f
        have j9 : h_Ja jm N (ws.set ja (aa, .inl (cA, 438, .inl f))) ts := ⟨ja, aa, r9.px qm, fun w hw => r9.mk (by omega) (hf w hw)⟩
        have hm9 : (q_ad (ws.set ja (aa, .inl (cA, 438, .inl f))))[jm]? = some am := h_ad qm
        refine y_wk (L' := [some (.ref am), none]) rfl (fun k v hk => by
          match k, hk with
          | 0, hk => exact hk
          | 1, hk => cases hk
          | k + 2, hk => cases hk) ?_
        exact y_z (J := fun _ _ => True) (M := z_m_goHome) (av := [.ref am]) (bv := [.ref am]) hA hC hQ ⟨rfl, rfl, rfl, rfl⟩ htt hi (by decide) hd (fun v hv => by rcases List.mem_singleton.mp hv with rfl; rfl) rfl ⟨h_tvr hm9 hm2, trivial⟩ rfl z_p0 (fun _ _ _ => trivial) (by rw [hkw]; exact h_wsub (fun e he => List.mem_cons_of_mem _ he)) z_k_goHome (fun _ _ _ _ _ _ hcp => (h_nost hcp).elim) (fun v ws2 ts2 _ _ hD2 hF2 hcp => ⟨hcp.1, j9.fr hF2 hm2 (h_nots rfl _) (fun w hw => by
          rcases hw with hw | rfl
          · exact h_offs (lo := 0) (hi := 4) rfl w (by omega) (by omega)
          · exact h_offs (lo := 435) (hi := 435) rfl _ (by omega) (by omega))⟩)
      · exact absurd h (nI_nlt (Nat.le_refl _) (by omega))
    | succ m IH =>
      intro c f hm hc hf
      have hlt : c < u := by omega
      have hbd9 := hbd.set (e := (aa, .inl (cA, 438, .inl f))) ra.2.2 (by decide) (by decide) (by decide)
      have ru9 := ru.set (e := (aa, .inl (cA, 438, .inl f))) ra.2.2 (by decide)
      have rh9 := rh.set (e := (aa, .inl (cA, 438, .inl f))) ra.2.2 (by decide)
      have qm : (ws.set ja (aa, .inl (cA, 438, .inl f)))[jm]? = some (am, .inr (9, fs)) := h_getset o1 njm
      refine y_iln hC (E 2 _ rfl) rfl ?_
      refine y_aln hC (E 3 _ rfl) rfl ?_
      refine y_virp hok hC (E 4 _ rfl) (by decide) (As := []) (rv := [.int (nI c)]) (by rw [htt]; exact h_m_many hok hcl hbd9 ru9) qm rfl rfl (by rw [hd]; decide) hn (show 1 ≤ 8 by decide) ?_
      rw [eu]
      refine y_cmp hC (E 5 _ rfl) (fun h => ?_) (fun _ => ?_)
      · exact absurd h (nI_ge hlt (by omega))
      refine y_aln hC (E 6 _ rfl) rfl ?_
      refine y_get hcl hC (E 7 _ rfl) qm ra.1 ?_
      refine y_ic hC (E 8 _ rfl) ?_
      refine y_iln hC (E 9 _ rfl) rfl ?_
      refine y_add hC (E 10 _ rfl) ?_
      rw [nI_add, Nat.zero_add]
      refine y_aln hC (E 11 _ rfl) rfl ?_
      refine y_get hcl hC (E 12 _ rfl) qm rh.1 ?_
      refine y_ic hC (E 13 _ rfl) ?_
      refine y_aln hC (E 14 _ rfl) rfl ?_
      refine y_get hcl hC (E 15 _ rfl) qm hbd.2.2.1 ?_
      refine y_mul hC (E 16 _ rfl) ?_
      rw [h_nmul]
      refine y_iln hC (E 17 _ rfl) rfl ?_
      refine y_add hC (E 18 _ rfl) ?_
      rw [nI_add]
      refine y_ald hC (E 19 _ rfl) rh9.2.1 rh.2.2 (by rw [htt]; rfl) (show 5 * b + c < 10 by omega) (by decide) ?_
      refine y_ast hC (E 20 _ rfl) (List.getElem?_set_self la) ra.2.2 (by rw [htt]; rfl) (show c < 438 by omega) (by decide) ?_ (by rw [hkw]; exact h_wrm List.mem_cons_self (by omega) (by omega)) ?_
      · rw [htt]
        have e9 : z_el (z_tt 66).2.2.1 (c % 438) = (2147483648, 2147483672) := by
          rcases (show c = 0 ∨ c = 1 ∨ c = 2 ∨ c = 3 ∨ c = 4 by omega) with rfl | rfl | rfl | rfl | rfl <;> rfl
        show (z_el (z_tt 66).2.2.1 (c % 438)).1 ≤ _ ∧ _ ≤ (z_el (z_tt 66).2.2.1 (c % 438)).2
        rw [e9]
        exact th (5 * b + c) (by omega)
      rw [List.set_set]
      refine y_ii hC (E 21 _ rfl) rfl ?_
      refine y_go hC (E 22 _ rfl) ?_
      have := IH (c + 1) (upd f c (fh (5 * b + c))) (by omega) (by omega) (fun w hw => by
        by_cases ek : w = c
        · subst ek
          rw [pk_us, show h_bn N w = N from if_pos (by omega)]
          exact gh w hlt
        · rw [pk_un ek]
          exact hf w hw)
      rw [nI_succ] at this
      exact this
  show Y X 0 0 [some (.ref am), none] [] ws ts
  refine y_ic hC (E 0 _ rfl) ?_
  refine y_isn hC (E 1 _ rfl) ?_
  have := loop (u - 0) 0 fa rfl (Nat.zero_le _) ga
  rw [h_setsame ws ja _ ra.2.1] at this
  exact this
end HK
