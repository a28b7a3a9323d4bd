/-! ===== by hand: night, step ===== -/
section HU
variable {ws : va_W} {ts : List Nat}
theorem h_Jk.uniq {A : Nat → Prop} (hD : va_D A ws) {jm b N b2 N2 : Nat} (h : h_Jk jm b N ws ts) (g : h_Jk jm b2 N2 ws ts) : b2 = b ∧ N2 = N := by
  obtain ⟨hm, hb, h34, hN, jc, ac, jr, ar, xc, xr, ⟨c1, c2⟩, ⟨r1, r2⟩, x1, x2, x3, x4⟩ := h
  obtain ⟨-, hb', h34', hN', jc', ac', jr', ar', xc', xr', ⟨c1', c2'⟩, ⟨r1', r2'⟩, -, -, -, x4'⟩ := g
  have inj : ∀ {j k : Nat} {v w : Value}, h_pl ws j k v → h_pl ws j k w → v = w := fun p q => by
    obtain ⟨a, e, q1, q2⟩ := q
    exact p.inj q1 q2
  have eb : b2 = b := (nI_eq (by omega) (by omega)).mp (Value.int.inj (inj h34' h34))
  subst eb
  obtain ⟨rfl, rfl⟩ := c1.uniq hD c1'
  obtain ⟨rfl, rfl⟩ := r1.uniq hD r1'
  have e1 := Value.int.inj (inj c2' c2)
  have e2 := Value.int.inj (inj r2' r2)
  subst e1
  subst e2
  exact ⟨rfl, (nI_eq (by omega) (by omega)).mp (x4'.symm.trans x4)⟩
end HU
def h_kn9 : List z_C := [(66, 2147484083, 2147484084)]
def h_knight : List z_C := z_m_night0.2.2.2.1 ++ (h_khome ++ (h_kn9 ++ h_kkeep))
section HK
variable {l : Launch} {base : Nat} {D : va_G} {sa : Nat → Nat} {ws : va_W} {ts : List Nat}
theorem h_m_night (hA : z_A0 l base D sa) {jm am : Nat} (hm1 : (q_ad ws)[jm]? = some am) (hj : h_Jp jm ws ts) : z_Met l base D sa z_tt h_knight (6, 0) 169 [.ref am] ws ts (h_pv (h_Jp jm)) := by
  have hok := hA.2.1
  have hcl := hA.1
  refine z_ofW (fun tys hw hD => ?_)
  obtain ⟨b0, N0, A0, U0, j1, j2, j3, j4, j5, j6⟩ := id hj
  have hm2 := j1.1
  obtain ⟨fs, o1, o2, o3⟩ := h_obj hw hm1 hm2 rfl
  have o1 : ws[jm]? = some (am, .inr (9, fs)) := o1
  obtain ⟨ja, aa, a1, a2⟩ := id j3
  obtain ⟨cA, fa, ra⟩ := a1.see hw o1 rfl
  have ra : h_row ws ts fs 41 66 438 ja aa cA fa := ra
  clear hw hD
  refine y_meth (J := fun _ _ => True) (hok 169 (by decide)) (fun v hv => by rcases List.mem_singleton.mp hv with rfl; rfl) (show 1 ≤ 3 by decide) (fun _ _ _ => trivial) ?_
  intro p e s m below meth c X hX hC hQ
  have hi : y_i X = 169 := by rw [hX]
  have htt : y_tt X = z_tt := by rw [hX]
  have hkw : y_kw X = h_knight := by rw [hX]
  have hl : y_l X = l ∧ y_b X = base ∧ y_D X = D ∧ y_sa X = sa := by rw [hX]; exact ⟨rfl, rfl, rfl, rfl⟩
  have hd : y_d X = (6, 0) := by rw [hX]
  clear hX
  obtain ⟨rfl, rfl, rfl, rfl⟩ := hl
  have E := y_Ei hok hi (by decide) (cd := q_cd169) rfl
  have hn : (0 : Nat) ≤ (y_d X).2 := Nat.zero_le _
  show Y X 0 0 [some (.ref am), none, none] [] ws ts
  refine y_aln hC (E 0 _ rfl) rfl ?_
  refine y_get hcl hC (E 1 _ rfl) o1 ra.1 ?_
  refine y_sp hC (E 2 _ rfl) ?_
  refine y_ald hC (E 3 _ rfl) ra.2.1 ra.2.2 (by rw [htt]; rfl) (show 436 < 438 by decide) (by decide) ?_
  refine y_sp hC (E 4 _ rfl) ?_
  refine y_cmp hC (E 5 _ rfl) (fun h => ?_) (fun _ => ?_)
  · refine y_aln hC (E 8 _ rfl) rfl ?_
    refine y_vir hok hC (E 9 _ rfl) (by decide) (As := []) (rv := []) (dd := (0, 0)) (by rw [htt]; exact h_m_keep hok hcl hm1 hj) o1 rfl rfl (by rw [hd]; decide) hn h_cat0 (by rw [hkw]; exact h_wsub (fun e he => List.mem_append_right _ (List.mem_append_right _ (List.mem_append_right _ he)))) (fun v ws1 ts1 hF1 hp => ?_)
    obtain ⟨rfl, hj1⟩ := hp
    have hm11 := z_gm hF1.2.1 hm1
    obtain ⟨b, N, A, U, k1, k2, k3, k4, k5, k6⟩ := id hj1
    obtain ⟨ac, xc, hpf⟩ := k1.pf hm11 (av := [.ref am]) (na := 1) rfl rfl
    have hpf2 : z_Pf ws1 ts1 (h_bf 1 b) [.ref am] [.ref am, .int (nI b), .ref ac, .int xc] := hpf [] _ rfl
    have hta : z_Ta (q_ad ws1) ts1 [(1, 40, 0)] [.ref am] := ⟨h_tvr hm11 k1.1, trivial⟩
    have cont : ∀ (ws2 : va_W) (ts2 : List Nat) (v1 : Int32), z_Fr z_m_night0.2.2.2.1 ws1 ts1 ws2 ts2 → Y X 0 135 [some (.ref am), some (.int v1), none] [] ws2 ts2 := by
      intro ws2 ts2 v1 hF2
      have hm12 := z_gm hF2.2.1 hm11
      have l1 := k1.fr hF2 (h_nots rfl _) (h_nots rfl _) (h_nots rfl _) (h_nots rfl _) (h_nots rfl _)
      have l2 := k2.fr hF2 k1.1 (h_nots rfl _) (h_nots rfl _)
      have l3 := k3.fr hF2 k1.1 (h_nots rfl _) (fun w hw => by
          rcases hw with hw | rfl
          · exact h_offs (lo := 0) (hi := 4) rfl w (by omega) (by omega)
          · exact h_offs (lo := 435) (hi := 435) rfl _ (by omega) (by omega))
      have l4 := k4.fr hF2 k1.1 (h_nots rfl _) (h_nots rfl)
      have l5 := k5.fr hF2 k1.1 (h_nots rfl _) (h_nots rfl _) (h_nots rfl) (h_nots rfl)
      have l6 := k6.fr hF2 k1.1 (h_nots rfl _) (h_nots rfl _) (h_nots rfl _) (fun w _ => h_nots rfl _)
      refine y_ty (fun tys2 hw2 hD2 => ?_)
      rw [htt] at hw2
      obtain ⟨fs2, q1, -, -⟩ := h_obj hw2 hm12 l1.1 rfl
      have q1 : ws2[jm]? = some (am, .inr (9, fs2)) := q1
      refine y_aln hC (E 71 _ rfl) rfl ?_
      refine y_vir hok hC (E 72 _ rfl) (by decide) (As := []) (rv := []) (dd := (1, 0)) (by rw [htt]; exact h_m_home hA hm12 l1 l3 l6) q1 rfl rfl (by rw [hd]; decide) hn h_cat0 (by rw [hkw]; exact h_wsub (fun e he => List.mem_append_right _ (List.mem_append_left _ he))) (fun v ws3 ts3 hF3 hp => ?_)
      obtain ⟨rfl, n3⟩ := hp
      have hm13 := z_gm hF3.2.1 hm12
      have n1 := l1.fr hF3 (h_nots rfl _) (h_nots rfl _) (h_nots rfl _) (h_nots rfl _) (h_nots rfl _)
      have hj3 : h_Jp jm ws3 ts3 := ⟨b, N, A, U, n1, l2.fr hF3 l1.1 (h_nots rfl _) (h_nots rfl _), n3, l4.fr hF3 l1.1 (h_nots rfl _) (h_nots rfl), l5.fr hF3 l1.1 (h_nots rfl _) (h_nots rfl _) (h_nots rfl) (h_nots rfl), l6.fr hF3 l1.1 (h_nots rfl _) (h_nots rfl _) (h_nots rfl _) (fun w _ => h_nots rfl _)⟩
      refine y_ty (fun tys3 hw3 hD3 => ?_)
      rw [htt] at hw3
      obtain ⟨fs3, s1, -, -⟩ := h_obj hw3 hm13 n1.1 rfl
      have s1 : ws3[jm]? = some (am, .inr (9, fs3)) := s1
      obtain ⟨ja3, aa3, p1, p2⟩ := id n3
      obtain ⟨cA3, f3, r3⟩ := p1.see hw3 s1 rfl
      have r3 : h_row ws3 ts3 fs3 41 66 438 ja3 aa3 cA3 f3 := r3
      have njm : ¬ ja3 = jm := h_tne r3.2.2 n1.1 (by decide)
      have la := (List.getElem?_eq_some_iff.mp r3.2.1).1
      refine y_aln hC (E 73 _ rfl) rfl ?_
      refine y_get hcl hC (E 74 _ rfl) s1 r3.1 ?_
      refine y_sp hC (E 75 _ rfl) ?_
      refine y_ic hC (E 76 _ rfl) ?_
      refine y_ast hC (E 77 _ rfl) r3.2.1 r3.2.2 (by rw [htt]; rfl) (show 435 < 438 by decide) (by decide) ?_ (by rw [hkw]; exact h_wrm (List.mem_append_right _ (List.mem_append_right _ (List.mem_append_left _ List.mem_cons_self))) (by decide) (by decide)) ?_
      · rw [htt]
        show 2147483648 ≤ _ ∧ _ ≤ 2147484707
        rw [z_qnI (by decide)]
        decide
      refine y_aln hC (E 78 _ rfl) rfl ?_
      refine y_get hcl hC (E 79 _ rfl) (h_getset s1 njm) r3.1 ?_
      refine y_sp hC (E 80 _ rfl) ?_
      refine y_dup2 hC (E 81 _ rfl) rfl rfl ?_
      refine y_ald hC (E 82 _ rfl) (List.getElem?_set_self la) r3.2.2 (by rw [htt]; rfl) (show 436 < 438 by decide) (by decide) ?_
      refine y_ic hC (E 83 _ rfl) ?_
      refine y_add hC (E 84 _ rfl) ?_
      refine y_ast hC (E 85 _ rfl) (List.getElem?_set_self la) r3.2.2 (by rw [htt]; rfl) (show 436 < 438 by decide) (by decide) ?_ (by rw [hkw]; exact h_wrm (List.mem_append_right _ (List.mem_append_right _ (List.mem_append_left _ List.mem_cons_self))) (by decide) (by decide)) ?_
      · rw [htt]
        exact ⟨Nat.zero_le _, q_qb_hi _⟩
      refine y_iln hC (E 86 _ rfl) rfl ?_
      refine y_ir hC hQ (E 87 _ rfl) hn ⟨⟨_, rfl⟩, ?_⟩
      have w9 : ∀ q, 435 ≤ q → q ≤ 436 → z_wr h_kn9 66 q := fun q h1 h2 => h_wrm List.mem_cons_self (by omega) (by omega)
      have f1 := h_setfr (v := nI 0) r3.2.1 r3.2.2 (w9 435 (by omega) (by omega))
      have f2 := h_setfr (v := upd f3 435 (nI 0) 436 + nI 1) (List.getElem?_set_self (a := (aa3, .inl (cA3, 438, .inl (upd f3 435 (nI 0))))) la) r3.2.2 (w9 436 (by omega) (by omega))
      refine hj3.fr5 (kc := h_kn9) (by decide) (f1.trans f2) (fun j2 a2 hx2 => ?_)
      obtain ⟨rfl, rfl⟩ := p1.uniq hD3 hx2
      refine ((r3.self _).self _).mk (q := 435) (by decide) ?_
      rw [pk_un (by decide), pk_us, z_qnI (by decide)]
      omega
    rcases (show b = 0 ∨ b = 1 by have := k1.2.1; omega) with rfl | rfl
    · exact y_z1 (J := fun _ _ => True) (M := z_m_night0) (av := [.ref am]) hA hC hQ ⟨rfl, rfl, rfl, rfl⟩ htt hi (by decide) hd (fun v hv => by rcases List.mem_singleton.mp hv with rfl; rfl) rfl hta hpf2 z_p0 (fun _ _ _ => trivial) (by rw [hkw]; exact h_wsub (fun e he => List.mem_append_left _ he)) z_k_night0 (fun ws2 ts2 _ _ _ hF2 _ v1 => cont ws2 ts2 v1 hF2) (fun v ws2 ts2 _ _ _ hF2 hcp => ⟨h_cpv rfl rfl hcp, hj1.fr (by decide) hF2⟩)
    · exact y_z1 (J := fun _ _ => True) (M := z_m_night1) (av := [.ref am]) hA hC hQ ⟨rfl, rfl, rfl, rfl⟩ htt hi (by decide) hd (fun v hv => by rcases List.mem_singleton.mp hv with rfl; rfl) rfl hta hpf2 z_p0 (fun _ _ _ => trivial) (by rw [hkw]; exact h_wsub (fun e he => List.mem_append_left _ he)) z_k_night1 (fun ws2 ts2 _ _ _ hF2 _ v1 => cont ws2 ts2 v1 hF2) (fun v ws2 ts2 _ _ _ hF2 hcp => ⟨h_cpv rfl rfl hcp, hj1.fr (by decide) hF2⟩)
  · refine y_ic hC (E 6 _ rfl) ?_
    exact y_ir hC hQ (E 7 _ rfl) hn ⟨⟨_, rfl⟩, hj⟩
def h_kst0 : List z_C := [(66, 2147483648, 2147483652)]
def h_kst1 : List z_C := [(66, 2147483733, 2147483757)]
def h_kstep : List z_C := z_m_step.2.2.2.1 ++ (h_kst1 ++ (h_kst0 ++ h_kkeep))
theorem h_m_step (hA : z_A0 l base D sa) {jm am : Nat} (hm1 : (q_ad ws)[jm]? = some am) (hj : h_Jp jm ws ts) (w to : Int32) : z_Met l base D sa z_tt h_kstep (4, 0) 120 [.ref am, .int w, .int to] ws ts (h_pv (h_Jp jm)) := by
  have hok := hA.2.1
  have hcl := hA.1
  refine z_ofW (fun tys hw hD => ?_)
  obtain ⟨b, N, A0, U0, j1, j2, j3, j4, j5, j6⟩ := id hj
  have hm2 := j1.1
  have hb2 := j1.2.1
  have hN25 := j1.2.2.2.1
  obtain ⟨fs, o1, o2, o3⟩ := h_obj hw hm1 hm2 rfl
  have o1 : ws[jm]? = some (am, .inr (9, fs)) := o1
  have o2 : fs.length = 68 := o2
  obtain ⟨ja, aa, a1, a2⟩ := id j3
  obtain ⟨cA, fa, ra⟩ := a1.see hw o1 rfl
  have ra : h_row ws ts fs 41 66 438 ja aa cA fa := ra
  obtain ⟨fc, fr, hbd, hNe, xc1, xc2⟩ := j1.bd hw o1
  have hne : ¬ fc b = 0 := fun e => by
    rw [e, z_qb0] at xc1
    omega
  obtain ⟨ju, au, cU, fu, u1, u2, u3, u4⟩ := h_fa hw o2 o3 (k := 16) (t := 51) (u := 0) (by decide) rfl rfl
  obtain ⟨jh, ah, cH, fh, g1, g2, g3, -⟩ := h_fa hw o2 o3 (k := 15) (t := 45) (u := 0) (by decide) rfl rfl
  have hu : h_row ws ts fs 16 51 2 ju au cU fu := ⟨u1, u2, u3⟩
  have hh : h_row ws ts fs 15 45 2 jh ah cH fh := ⟨g1, g2, g3⟩
  have hub := h_b25 (by decide) u4 b hb2
  clear hw hD
  refine y_meth (J := fun _ _ => True) (hok 120 (by decide)) (fun v hv => by
    rcases List.mem_cons.mp hv with rfl | hv
    · rfl
    rcases List.mem_cons.mp hv with rfl | hv
    · rfl
    rcases List.mem_singleton.mp hv with rfl
    rfl) (show 3 ≤ 4 by decide) (fun _ _ _ => trivial) ?_
  intro p e s m below meth c X hX hC hQ
  have hi : y_i X = 120 := by rw [hX]
  have htt : y_tt X = z_tt := by rw [hX]
  have hkw : y_kw X = h_kstep := by rw [hX]
  have hl : y_l X = l ∧ y_b X = base ∧ y_D X = D ∧ y_sa X = sa := by rw [hX]; exact ⟨rfl, rfl, rfl, rfl⟩
  have hd : y_d X = (4, 0) := by rw [hX]
  clear hX
  obtain ⟨rfl, rfl, rfl, rfl⟩ := hl
  have E := y_Ei hok hi (by decide) (cd := q_cd120) rfl
  have hn : (0 : Nat) ≤ (y_d X).2 := Nat.zero_le _
  show Y X 0 0 [some (.ref am), some (.int w), some (.int to), none] [] ws ts
  have bad : ∀ (w to : Int32), Y X 0 33 [some (.ref am), some (.int w), some (.int to), none] [] ws ts := fun w to => by
    refine y_ic hC (E 19 _ rfl) ?_
    exact y_ir hC hQ (E 20 _ rfl) hn ⟨⟨_, rfl⟩, hj⟩
  refine y_aln hC (E 0 _ rfl) rfl ?_
  refine y_iln hC (E 1 _ rfl) rfl ?_
  refine y_virq hok hC (E 2 _ rfl) (by decide) (As := [.int w]) (rv := []) (by rw [htt]; exact h_m_iswalker hok hcl hbd hu w) o1 rfl rfl (by rw [hd]; decide) hn h_cat0 ?_
  refine y_if hC (E 3 _ rfl) (fun _ => bad w to) (fun h => ?_)
  rcases h_nI01 (h_in_lt w (nI 0) (fu b - nI 1)) with ⟨g, _⟩ | ⟨_, hwi⟩
  · exact absurd g h
  obtain ⟨wk, hwk, rfl⟩ := h_walker hub.2 hub.1 hwi
  refine y_aln hC (E 4 _ rfl) rfl ?_
  refine y_iln hC (E 5 _ rfl) rfl ?_
  refine y_virq hok hC (E 6 _ rfl) (by decide) (As := [.int to]) (rv := []) (by rw [htt]; exact h_m_isfree hok hcl hbd hh to) o1 rfl rfl (by rw [hd]; decide) hn h_cat0 ?_
  refine y_if hC (E 7 _ rfl) (fun _ => bad (nI wk) to) (fun h2 => ?_)
  rcases h_nI01 (h_free_lt fc fr fh b to) with ⟨g, _⟩ | ⟨_, hfi⟩
  · exact absurd g h2
  have hin : h_in to (nI 0) (nI N - nI 1) = 1 := by
    unfold h_free at hfi
    split at hfi
    · rename_i hh9
      have := hh9.1
      rw [hNe] at this
      exact this
    · cases hfi
  have es : nI N - nI 1 = nI (N - 1) := by
    have e1 : nI N = nI (N - 1) + nI 1 := by rw [nI_add]; congr 1; omega
    rw [e1, Int32.add_sub_cancel]
  rw [es] at hin
  obtain ⟨ck, hck, rfl⟩ := h_in_nat (by omega) hin
  have hck : ck < N := by omega
  refine y_aln hC (E 8 _ rfl) rfl ?_
  refine y_aln hC (E 9 _ rfl) rfl ?_
  refine y_get hcl hC (E 10 _ rfl) o1 ra.1 ?_
  refine y_ic hC (E 11 _ rfl) ?_
  refine y_iln hC (E 12 _ rfl) rfl ?_
  refine y_add hC (E 13 _ rfl) ?_
  rw [nI_add, Nat.zero_add wk]
  refine y_ald hC (E 14 _ rfl) ra.2.1 ra.2.2 (by rw [htt]; rfl) (show wk < 438 by omega) (by decide) ?_
  refine y_iln hC (E 15 _ rfl) rfl ?_
  refine y_virp hok hC (E 16 _ rfl) (by decide) (As := [.int (fa wk), .int (nI ck)]) (rv := []) (by rw [htt]; exact h_m_steps hok hcl hbd hne (fa wk) (nI ck)) o1 rfl rfl (by rw [hd]; decide) hn h_cat0 ?_
  refine y_ic hC (E 17 _ rfl) ?_
  refine y_cmp hC (E 18 _ rfl) (fun _ => ?_) (fun _ => bad (nI wk) (nI ck))
  refine y_aln hC (E 21 _ rfl) rfl ?_
  refine y_vir hok hC (E 22 _ rfl) (by decide) (As := []) (rv := []) (dd := (0, 0)) (by rw [htt]; exact h_m_keep hok hcl hm1 hj) o1 rfl rfl (by rw [hd]; decide) hn h_cat0 (by rw [hkw]; exact h_wsub (fun e he => List.mem_append_right _ (List.mem_append_right _ (List.mem_append_right _ he)))) (fun v ws1 ts1 hF1 hp => ?_)
  obtain ⟨rfl, hj1⟩ := hp
  have hm11 := z_gm hF1.2.1 hm1
  have k1 : h_Jk jm b N ws1 ts1 := j1.fr hF1 (h_offs (lo := 34) (hi := 34) rfl _ (by omega) (by omega)) (h_offs (lo := 11) (hi := 11) rfl _ (by omega) (by omega)) (h_offs (lo := 12) (hi := 12) rfl _ (by omega) (by omega)) (h_nots rfl _) (h_nots rfl _)
  -- the rest
  have rest : ∀ (ws2 : va_W) (x : Option Value), (q_ad ws2)[jm]? = some am → h_Jk jm b N ws2 ts1 → h_Jp jm ws2 ts1 → Y X 0 74 [some (.ref am), some (.int (nI wk)), some (.int (nI ck)), x] [] ws2 ts1 := by
    intro ws2 x hm12 l1 hj2
    refine y_ty (fun tys2 hw2 hD2 => ?_)
    rw [htt] at hw2
    obtain ⟨b', N', A, U, l1', l2, l3, l4, l5, l6⟩ := hj2
    obtain ⟨rfl, rfl⟩ := l1.uniq hD2 l1'
    obtain ⟨fs2, q1, -, -⟩ := h_obj hw2 hm12 l1.1 rfl
    have q1 : ws2[jm]? = some (am, .inr (9, fs2)) := q1
    obtain ⟨ja2, aa2, p1, p2⟩ := id l3
    obtain ⟨cA2, f2, r2⟩ := p1.see hw2 q1 rfl
    have r2 : h_row ws2 ts1 fs2 41 66 438 ja2 aa2 cA2 f2 := r2
    have njm : ¬ ja2 = jm := h_tne r2.2.2 l1.1 (by decide)
    refine y_aln hC (E 49 _ rfl) rfl ?_
    refine y_get hcl hC (E 50 _ rfl) q1 r2.1 ?_
    refine y_ic hC (E 51 _ rfl) ?_
    refine y_iln hC (E 52 _ rfl) rfl ?_
    refine y_add hC (E 53 _ rfl) ?_
    rw [nI_add, Nat.zero_add]
    refine y_iln hC (E 54 _ rfl) rfl ?_
    refine y_ast hC (E 55 _ rfl) r2.2.1 r2.2.2 (by rw [htt]; rfl) (show wk < 438 by omega) (by decide) ?_ (by rw [hkw]; exact h_wrm (List.mem_append_right _ (List.mem_append_right _ (List.mem_append_left _ List.mem_cons_self))) (by omega) (by omega)) ?_
    · rw [htt]
      have e9 : z_el (z_tt 66).2.2.1 (wk % 438) = (2147483648, 2147483672) := by
        rcases (show wk = 0 ∨ wk = 1 ∨ wk = 2 ∨ wk = 3 ∨ wk = 4 by omega) with rfl | rfl | rfl | rfl | rfl <;> rfl
      show (z_el (z_tt 66).2.2.1 (wk % 438)).1 ≤ _ ∧ _ ≤ (z_el (z_tt 66).2.2.1 (wk % 438)).2
      rw [e9, z_qnI (by omega)]
      show 2147483648 ≤ 2147483648 + ck ∧ 2147483648 + ck ≤ 2147483672
      omega
    have f1 := h_setfr (kw := h_kst0) (v := nI ck) r2.2.1 r2.2.2 (h_wrm (q := wk) List.mem_cons_self (by omega) (by omega))
    have r9 := r2.self (upd f2 wk (nI ck))
    have q9 := h_getset (y := (aa2, (.inl (cA2, 438, .inl (upd f2 wk (nI ck))) : va_E))) q1 njm
    have j9 : h_Ja jm N' (ws2.set ja2 (aa2, .inl (cA2, 438, .inl (upd f2 wk (nI ck))))) ts1 := ⟨ja2, aa2, r9.px q9, fun w hw => r9.mk (by omega) (by
      by_cases ek : w = wk
      · subst ek
        rw [pk_us, show h_bn N' w = N' from if_pos (by omega), z_qnI (by omega)]
        omega
      · rw [pk_un ek]
        exact r2.lt (by omega) (p2 w hw))⟩
    have hj9 : h_Jp jm (ws2.set ja2 (aa2, .inl (cA2, 438, .inl (upd f2 wk (nI ck))))) ts1 := ⟨_, N', A, U, l1.fr f1 (h_nots rfl _) (h_nots rfl _) (h_nots rfl _) (h_nots rfl _) (h_nots rfl _), l2.fr f1 l1.1 (h_nots rfl _) (h_nots rfl _), j9, l4.fr f1 l1.1 (h_nots rfl _) (h_nots rfl), l5.fr f1 l1.1 (h_nots rfl _) (h_nots rfl _) (h_nots rfl) (h_nots rfl), l6.fr f1 l1.1 (h_nots rfl _) (h_nots rfl _) (h_nots rfl _) (fun w _ => h_nots rfl _)⟩
    have hm9 := h_ad q9
    refine y_wk (L' := [some (.ref am), some (.int (nI wk)), some (.int (nI ck)), none]) rfl (fun k v hk => by
      match k, hk with
      | 0, hk => exact hk
      | 1, hk => exact hk
      | 2, hk => exact hk
      | 3, hk => cases hk
      | k + 4, hk => cases hk) ?_
    exact y_z (J := fun _ _ => True) (M := z_m_step) (av := [.ref am, .int (nI wk), .int (nI ck)]) (bv := [.ref am, .int (nI wk), .int (nI ck)]) hA hC hQ ⟨rfl, rfl, rfl, rfl⟩ htt hi (by decide) hd (fun v hv => by
      rcases List.mem_cons.mp hv with rfl | hv
      · rfl
      rcases List.mem_cons.mp hv with rfl | hv
      · rfl
      rcases List.mem_singleton.mp hv with rfl
      rfl) rfl ⟨h_tvr hm9 l1.1, h_tvn (by omega) (by omega) (by omega), h_tvn (by omega) (by omega) (by omega), trivial⟩ rfl z_p0 (fun _ _ _ => trivial) (by rw [hkw]; exact h_wsub (fun e he => List.mem_append_left _ he)) z_k_step (fun _ _ _ _ _ _ hcp => (h_nost hcp).elim) (fun v ws3 ts3 _ _ _ hF3 hcp => ⟨h_cpv rfl rfl hcp, hj9.fr (by decide) hF3⟩)
  refine y_ty (fun tys1 hw1 hD1 => ?_)
  rw [htt] at hw1
  obtain ⟨b', N', A, U, l1', l2, l3, l4, l5, l6⟩ := id hj1
  obtain ⟨fs1, q1, -, -⟩ := h_obj hw1 hm11 k1.1 rfl
  have q1 : ws1[jm]? = some (am, .inr (9, fs1)) := q1
  obtain ⟨ja1, aa1, p1, p2⟩ := id l3
  obtain ⟨cA1, f1, r1⟩ := p1.see hw1 q1 rfl
  have r1 : h_row ws1 ts1 fs1 41 66 438 ja1 aa1 cA1 f1 := r1
  have njm : ¬ ja1 = jm := h_tne r1.2.2 k1.1 (by decide)
  have tt5 := h_typ hw1 r1.2.1 r1.2.2 rfl (5 + ck) (show 5 + ck < 438 by omega)
  have e5 : z_el (z_tt 66).2.2.1 ((5 + ck) % 438) = (2147483647, 2147483652) := by
    rw [Nat.mod_eq_of_lt (by omega)]
    have hlt5 : ¬ (5 + ck < 5) := by omega
    have hlt30 : 5 + ck < 30 := by omega
    show (bif Nat.blt (5 + ck) 5 then _ else bif Nat.blt (5 + ck) 30 then (2147483647, 2147483652) else _) = _
    have b1 : Nat.blt (5 + ck) 5 = false := by
      cases hb9 : Nat.blt (5 + ck) 5 with
      | false => rfl
      | true => exact absurd (q_blt.mp hb9) hlt5
    have b2 : Nat.blt (5 + ck) 30 = true := q_blt.mpr hlt30
    rw [b1, b2]
    rfl
  have tt5 : 2147483647 ≤ q_qb (f1 (5 + ck)) ∧ q_qb (f1 (5 + ck)) ≤ 2147483652 := by
    have tt5 : (z_el (z_tt 66).2.2.1 ((5 + ck) % 438)).1 ≤ q_qb (f1 (5 + ck)) ∧ q_qb (f1 (5 + ck)) ≤ (z_el (z_tt 66).2.2.1 ((5 + ck) % 438)).2 := tt5
    rw [e5] at tt5
    exact tt5
  refine y_aln hC (E 23 _ rfl) rfl ?_
  refine y_get hcl hC (E 24 _ rfl) q1 r1.1 ?_
  refine y_ic hC (E 25 _ rfl) ?_
  refine y_iln hC (E 26 _ rfl) rfl ?_
  refine y_add hC (E 27 _ rfl) ?_
  rw [nI_add]
  refine y_ald hC (E 28 _ rfl) r1.2.1 r1.2.2 (by rw [htt]; rfl) (show 5 + ck < 438 by omega) (by decide) ?_
  refine y_isn hC (E 29 _ rfl) ?_
  refine y_iln hC (E 30 _ rfl) rfl ?_
  refine y_if hC (E 31 _ rfl) (fun _ => rest ws1 _ hm11 k1 hj1) (fun h3 => ?_)
  have h3 : (0 : Int32) ≤ f1 (5 + ck) := h3
  have h3 := (q_le_iff _ _).mp h3
  rw [z_qb0] at h3
  obtain ⟨t, t1, t2, t3⟩ := z_nat h3
  have t4 : t ≤ 4 := by omega
  refine y_iln hC (E 32 _ rfl) rfl ?_
  refine y_iln hC (E 33 _ rfl) rfl ?_
  refine y_cmp hC (E 34 _ rfl) (fun _ => rest ws1 _ hm11 k1 hj1) (fun _ => ?_)
  refine y_aln hC (E 35 _ rfl) rfl ?_
  refine y_get hcl hC (E 36 _ rfl) q1 r1.1 ?_
  refine y_bp hC (E 37 _ rfl) ?_
  refine y_ic hC (E 38 _ rfl) ?_
  refine y_iln hC (E 39 _ rfl) rfl ?_
  refine y_mul hC (E 40 _ rfl) ?_
  rw [h_nmul]
  refine y_add hC (E 41 _ rfl) ?_
  rw [nI_add]
  refine y_iln hC (E 42 _ rfl) rfl ?_
  refine y_add hC (E 43 _ rfl) ?_
  rw [t2, nI_add]
  refine y_dup2 hC (E 44 _ rfl) rfl rfl ?_
  refine y_ald hC (E 45 _ rfl) r1.2.1 r1.2.2 (by rw [htt]; rfl) (show 85 + 5 * wk + t < 438 by omega) (by decide) ?_
  refine y_ic hC (E 46 _ rfl) ?_
  refine y_add hC (E 47 _ rfl) ?_
  refine y_ast hC (E 48 _ rfl) r1.2.1 r1.2.2 (by rw [htt]; rfl) (show 85 + 5 * wk + t < 438 by omega) (by decide) ?_ (by rw [hkw]; exact h_wrm (List.mem_append_right _ (List.mem_append_left _ List.mem_cons_self)) (by omega) (by omega)) ?_
  · rw [htt]
    have e9 : z_el (z_tt 66).2.2.1 ((85 + 5 * wk + t) % 438) = (0, 4294967295) := by
      rw [Nat.mod_eq_of_lt (by omega)]
      show (bif Nat.blt (85 + 5 * wk + t) 5 then _ else bif Nat.blt (85 + 5 * wk + t) 30 then _ else bif Nat.blt (85 + 5 * wk + t) 435 then (0, 4294967295) else _) = _
      have b1 : Nat.blt (85 + 5 * wk + t) 5 = false := by
        cases hb9 : Nat.blt (85 + 5 * wk + t) 5 with
        | false => rfl
        | true => exact absurd (q_blt.mp hb9) (by omega)
      have b2 : Nat.blt (85 + 5 * wk + t) 30 = false := by
        cases hb9 : Nat.blt (85 + 5 * wk + t) 30 with
        | false => rfl
        | true => exact absurd (q_blt.mp hb9) (by omega)
      have b3 : Nat.blt (85 + 5 * wk + t) 435 = true := q_blt.mpr (by omega)
      rw [b1, b2, b3]
      rfl
    show (z_el (z_tt 66).2.2.1 ((85 + 5 * wk + t) % 438)).1 ≤ _ ∧ _ ≤ (z_el (z_tt 66).2.2.1 ((85 + 5 * wk + t) % 438)).2
    rw [e9]
    exact ⟨Nat.zero_le _, q_qb_hi _⟩
  have f9 := h_setfr (kw := h_kst1) (v := f1 (85 + 5 * wk + t) + nI 1) r1.2.1 r1.2.2 (h_wrm (q := 85 + 5 * wk + t) List.mem_cons_self (by omega) (by omega))
  exact rest _ _ (h_ad (h_getset q1 njm)) (k1.fr f9 (h_nots rfl _) (h_nots rfl _) (h_nots rfl _) (h_nots rfl _) (h_nots rfl _)) (hj1.fr (by decide) f9)
end HK
