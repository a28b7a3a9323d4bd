/-! ===== by hand: beach, its loop ===== -/
section HK
variable {l : Launch} {base : Nat} {D : va_G} {sa : Nat → Nat} {ws : va_W} {ts : List Nat}
theorem h_be_loop (hA : z_A0 l base D sa) {X : y_X} {jm am b : Nat} {post : Option Value → va_W → List Nat → Prop} (hpost : post = h_pbe jm) (hC : y_C X) (hQ : y_end X post) (hl : y_l X = l ∧ y_b X = base ∧ y_D X = D ∧ y_sa X = sa) (htt : y_tt X = z_tt) (hi : y_i X = 158) (hkw : y_kw X = h_kbe) (hd : y_d X = (10, 0)) (hb : b < 2) : ∀ (m ln : Nat) (ws1 : va_W) (ts1 : List Nat), 14 - ln ≤ m → (q_ad ws1)[jm]? = some am → ts1[jm]? = some 40 → h_Jo jm b ws1 ts1 → h_Jc jm ws1 ts1 → (h_fb ws1 jm 4 2147483649 4294967295 ∨ h_nbx jm (1 - b) ln ws1 ts1) → Y X 0 74 [some (.ref am), none] [] ws1 ts1 := by
  have hl' := hl
  have hpost' := hpost
  subst hpost
  have hok := hA.2.1
  have hcl := hA.1
  obtain ⟨rfl, rfl, rfl, rfl⟩ := hl
  have E := y_Ei hok hi (by decide) (cd := q_cd158) rfl
  have hn : (0 : Nat) ≤ (y_d X).2 := Nat.zero_le _
  obtain ⟨kk1, kk2, -, -, kk5⟩ := h_kb_ok b hb
  intro m
  induction m with
  | zero =>
    intro ln ws1 ts1 hm m1 m2 jo jc hor
    refine y_ty (fun tys1 hw1 hD1 => ?_)
    rw [htt] at hw1
    obtain ⟨fs1, q1, q2, q3⟩ := h_obj hw1 m1 m2 rfl
    have q1 : ws1[jm]? = some (am, .inr (9, fs1)) := q1
    have q2 : fs1.length = 68 := q2
    rcases hor with hbad | ⟨hu, wk, ti, wi, dr, c, r, -, k1, k2, k3, k4, k5, k6, k7, k8, k9⟩
    · obtain ⟨x, x1, x2, x3⟩ := hbad
      have hx : ¬ x = 0 := fun e => by
        rw [e, z_qb0] at x2
        omega
      have hg : h_good x = 0 := if_neg hx
      refine y_aln hC (E 42 _ rfl) rfl ?_
      refine y_virp hok hC (E 43 _ rfl) (by decide) (As := []) (rv := []) (by rw [htt]; exact h_m_good hok hcl ⟨q1, m2, q2⟩ (x1.fld q1)) q1 rfl rfl (by rw [hd]; decide) hn h_cat0 ?_
      rw [hg]
      refine y_if hC (E 44 _ rfl) (fun _ => ?_) (fun h => absurd rfl h)
      refine y_aln hC (E 51 _ rfl) rfl ?_
      refine y_virp hok hC (E 52 _ rfl) (by decide) (As := []) (rv := []) (by rw [htt]; exact h_m_good hok hcl ⟨q1, m2, q2⟩ (x1.fld q1)) q1 rfl rfl (by rw [hd]; decide) hn h_cat0 ?_
      rw [hg]
      refine y_if hC (E 53 _ rfl) (fun h => absurd rfl h) (fun _ => ?_)
      refine y_ic hC (E 54 _ rfl) ?_
      obtain ⟨N, A, U, hJ⟩ := jo
      exact y_ir hC hQ (E 55 _ rfl) hn ⟨⟨_, rfl⟩, ⟨b, N, A, U, hJ⟩, jc⟩
    · omega
  | succ m IH =>
    intro ln ws1 ts1 hm m1 m2 jo jc hor
    refine y_ty (fun tys1 hw1 hD1 => ?_)
    rw [htt] at hw1
    obtain ⟨fs1, q1, q2, q3⟩ := h_obj hw1 m1 m2 rfl
    have q1 : ws1[jm]? = some (am, .inr (9, fs1)) := q1
    have q2 : fs1.length = 68 := q2
    have fld : ∀ k, k < 68 → ∃ v, fs1[k]? = some v := fun k hk => ⟨_, List.getElem?_eq_getElem (by omega)⟩
    obtain ⟨v4, hv4⟩ := fld 4 (by decide)
    obtain ⟨x, rfl, x2, x3⟩ := h_tvi (show z_tv (q_ad ws1) ts1 (0, 2147483648, 2147483652) v4 from q3 4 v4 hv4)
    obtain ⟨v8, hv8⟩ := fld 8 (by decide)
    obtain ⟨tk, rfl, tk2, tk3⟩ := h_tvi (show z_tv (q_ad ws1) ts1 (0, 2147483648, 2147483653) v8 from q3 8 v8 hv8)
    refine y_aln hC (E 42 _ rfl) rfl ?_
    refine y_virp hok hC (E 43 _ rfl) (by decide) (As := []) (rv := []) (by rw [htt]; exact h_m_good hok hcl ⟨q1, m2, q2⟩ hv4) q1 rfl rfl (by rw [hd]; decide) hn h_cat0 ?_
    by_cases hx : x = 0
    · have hg : h_good x = 1 := if_pos hx
      have hgood : h_nbx jm (1 - b) ln ws1 ts1 := by
        rcases hor with ⟨y, y1, y2, y3⟩ | hor
        · have := Value.int.inj (y1.inj q1 hv4)
          rw [this, hx, z_qb0] at y2
          omega
        · exact hor
      have ln13 : ln ≤ 13 := by
        obtain ⟨hu, wk, ti, wi, dr, c, r, -, k1, k2, k3, k4, k5, k6, k7, k8, k9⟩ := hgood
        omega
      rw [hg]
      refine y_if hC (E 44 _ rfl) (fun h => absurd ((nI_eq (by decide) (by decide)).mp (show nI 1 = nI 0 from h)) (by decide)) (fun _ => ?_)
      refine y_aln hC (E 45 _ rfl) rfl ?_
      refine y_get hcl hC (E 46 _ rfl) q1 hv8 ?_
      refine y_if hC (E 47 _ rfl) (fun _ => ?_) (fun _ => ?_)
      · refine y_aln hC (E 51 _ rfl) rfl ?_
        refine y_virp hok hC (E 52 _ rfl) (by decide) (As := []) (rv := []) (by rw [htt]; exact h_m_good hok hcl ⟨q1, m2, q2⟩ hv4) q1 rfl rfl (by rw [hd]; decide) hn h_cat0 ?_
        rw [hg]
        refine y_if hC (E 53 _ rfl) (fun _ => ?_) (fun h => absurd ((nI_eq (by decide) (by decide)).mp (show nI 1 = nI 0 from h)) (by decide))
        exact h_be_new hA hpost' hC hQ hl' htt hi hkw hd (rb := 1 - b) (by omega) m1 m2 hgood
      · refine y_aln hC (E 48 _ rfl) rfl ?_
        refine y_vir hok hC (E 49 _ rfl) (by decide) (As := []) (rv := []) (dd := (8, 0)) (by rw [htt]; exact h_m_line hA (b := 1 - b) (by omega) m1 m2 ⟨am, _, q1, by show fs1[4]? = _; rw [hv4, hx]; rfl⟩ hgood) q1 rfl rfl (by rw [hd]; decide) hn h_cat0 (by rw [hkw]; exact h_wcov kk5) (fun v ws2 ts2 hF2 hp => ?_)
        obtain ⟨rfl, hor2⟩ := hp
        refine y_go hC (E 50 _ rfl) ?_
        refine y_ty (fun tys2 hw2 hD2 => ?_)
        rw [htt] at hw2
        have h34 : h_pl ws1 jm 34 (.int (nI b)) := by
          obtain ⟨N, A, U, hJ, -⟩ := jo
          exact hJ.2.2.1
        exact IH (ln + 1) ws2 ts2 (by omega) (z_gm hF2.2.1 m1) (z_gm hF2.1 m2) (jo.frk kk1 hF2) (jc.frk kk2 hF2 hw2 m1 h34 hb) hor2
    · have hg : h_good x = 0 := if_neg hx
      rw [hg]
      refine y_if hC (E 44 _ rfl) (fun _ => ?_) (fun h => absurd rfl h)
      refine y_aln hC (E 51 _ rfl) rfl ?_
      refine y_virp hok hC (E 52 _ rfl) (by decide) (As := []) (rv := []) (by rw [htt]; exact h_m_good hok hcl ⟨q1, m2, q2⟩ hv4) q1 rfl rfl (by rw [hd]; decide) hn h_cat0 ?_
      rw [hg]
      refine y_if hC (E 53 _ rfl) (fun h => absurd rfl h) (fun _ => ?_)
      refine y_ic hC (E 54 _ rfl) ?_
      obtain ⟨N, A, U, hJ⟩ := jo
      exact y_ir hC hQ (E 55 _ rfl) hn ⟨⟨_, rfl⟩, ⟨b, N, A, U, hJ⟩, jc⟩
def h_bvb (am b a13 a14 a16 a25 a26 a27 a11 a12 : Nat) : List Value := [.ref am, .int (nI b), .ref a13, .ref a14, .ref a16, .ref a25, .ref a26, .ref a27, .ref a11, .ref a12]
/-- the stop before the loop: the bank that is to be read, empty -/
theorem h_be_st {P : Nat → Prop} {M : z_M} {ps : List (Nat × Nat × z_C)} {ws' : va_W} {ts' : List Nat} {tys' : List (ClassId × FieldType)} {jm am b a13 a14 a16 a25 a26 a27 a11 a12 j13 j14 j16 j25 j26 j27 j11 j12 : Nat} (hb : b < 2) (hm1 : (q_ad ws)[jm]? = some am) (hm2 : ts[jm]? = some 40) (x13 : h_px ws ts jm 13 43 j13 a13) (x14 : h_px ws ts jm 14 44 j14 a14) (x16 : h_px ws ts jm 16 51 j16 a16) (x25 : h_px ws ts jm 25 57 j25 a25) (x26 : h_px ws ts jm 26 58 j26 a26) (x27 : h_px ws ts jm 27 59 j27 a27) (x11 : h_px ws ts jm 11 49 j11 a11) (x12 : h_px ws ts jm 12 50 j12 a12) (hw' : z_W z_tt ws' tys' ts') (hD' : va_D P ws') (hF : z_Fr (h_kb1 (1 - b)) ws ts ws' ts') (hcp : z_CP (z_mst M ps) (h_bvb am b a13 a14 a16 a25 a26 a27 a11 a12) none ws' ts') (hps : ps = [(0, 35, (0, 2147483648 + (1 - b), 2147483648 + (1 - b))), (0, 7, (0, 2147483648, 2147485248)), (0, 4, (0, 2147483648, 2147483648)), (0, 36, (0, 2147483648 + 560 * (1 - b), 2147483648 + 560 * (1 - b))), (2, 1 - b, (0, 2147483648, 2147483648)), (3, 1 - b, (0, 2147483648, 2147483648)), (4, 1 - b, (0, 2147483648, 2147483648)), (5, 1 - b, (0, 2147483648, 2147483648)), (6, 1 - b, (0, 2147483648, 2147483648)), (7, 1 - b, (0, 2147483648, 2147483648)), (8, 1 - b, (0, 2147483652, 2147483652)), (9, 1 - b, (0, 2147483652, 2147483652))]) : h_nbx jm (1 - b) 0 ws' ts' := by
  subst hps
  have m1 := z_gm hF.2.1 hm1
  have m2 := z_gm hF.1 hm2
  have k : ∀ q, 11 ≤ q → q ≤ 34 → ¬ z_wr (h_kb1 (1 - b)) 40 q := fun q h1 h2 => h_offs (lo := 11) (hi := 34) rfl q h1 h2
  have ln : ∀ {kf t j a i n : Nat}, h_px ws ts jm kf t j a → 11 ≤ kf → kf ≤ 34 → (h_bvb am b a13 a14 a16 a25 a26 a27 a11 a12)[i]? = some (.ref a) → n < 2147483648 → (∃ (a j : Nat) (e : va_E) (r : Value), (h_bvb am b a13 a14 a16 a25 a26 a27 a11 a12)[i]? = some (.ref a) ∧ ws'[j]? = some (a, e) ∧ z_at e (1 - b) = some r ∧ z_tv (q_ad ws') ts' (0, 2147483648 + n, 2147483648 + n) r) → h_ln ws' ts' jm kf t (1 - b) (nI n) := fun hx h1 h2 hi hn h => by
    obtain ⟨v, v1, v2, v3⟩ := h_lane hD' hF hx hi h
    rw [h_qv hn (y := v) (by omega)] at v1
    exact ⟨_, _, hx.fr hF hm2 (k _ h1 h2), v1⟩
  have fd : ∀ {kf n : Nat}, n < 2147483648 → (∃ (a j : Nat) (e : va_E) (r : Value), (h_bvb am b a13 a14 a16 a25 a26 a27 a11 a12)[0]? = some (.ref a) ∧ ws'[j]? = some (a, e) ∧ z_at e kf = some r ∧ z_tv (q_ad ws') ts' (0, 2147483648 + n, 2147483648 + n) r) → h_pl ws' jm kf (.int (nI n)) := fun hn h => by
    obtain ⟨v, v1, v2, v3⟩ := h_fbo hD' m1 rfl h
    rw [h_qv hn (y := v) (by omega)] at v1
    exact v1
  obtain ⟨fs', q1, q2, q3⟩ := h_obj hw' m1 m2 rfl
  have q1 : ws'[jm]? = some (am, .inr (9, fs')) := q1
  obtain ⟨jh, ah, cH, fh, w1, w2, w3, -⟩ := h_fa hw' q2 q3 (k := 20) (t := 52) (u := 0) (by decide) rfl rfl
  have rh : h_row ws' ts' fs' 20 52 10 jh ah cH fh := ⟨w1, w2, w3⟩
  have c0 := hcp.2 _ List.mem_cons_self
  have c1 := hcp.2 _ (List.mem_cons_of_mem _ List.mem_cons_self)
  have c3 := hcp.2 _ (List.mem_cons_of_mem _ (List.mem_cons_of_mem _ (List.mem_cons_of_mem _ List.mem_cons_self)))
  have g : ∀ {q : Nat × Nat × z_C}, q ∈ [((2 : Nat), 1 - b, ((0 : Nat), (2147483648 : Nat), (2147483648 : Nat))), (3, 1 - b, (0, 2147483648, 2147483648)), (4, 1 - b, (0, 2147483648, 2147483648)), (5, 1 - b, (0, 2147483648, 2147483648)), (6, 1 - b, (0, 2147483648, 2147483648)), (7, 1 - b, (0, 2147483648, 2147483648)), (8, 1 - b, (0, 2147483652, 2147483652)), (9, 1 - b, (0, 2147483652, 2147483652))] → _ := fun hq => hcp.2 _ (List.mem_cons_of_mem _ (List.mem_cons_of_mem _ (List.mem_cons_of_mem _ (List.mem_cons_of_mem _ hq))))
  have d2 := g List.mem_cons_self
  have d3 := g (List.mem_cons_of_mem _ List.mem_cons_self)
  have d4 := g (List.mem_cons_of_mem _ (List.mem_cons_of_mem _ List.mem_cons_self))
  have d5 := g (List.mem_cons_of_mem _ (List.mem_cons_of_mem _ (List.mem_cons_of_mem _ List.mem_cons_self)))
  have d6 := g (List.mem_cons_of_mem _ (List.mem_cons_of_mem _ (List.mem_cons_of_mem _ (List.mem_cons_of_mem _ List.mem_cons_self))))
  have d7 := g (List.mem_cons_of_mem _ (List.mem_cons_of_mem _ (List.mem_cons_of_mem _ (List.mem_cons_of_mem _ (List.mem_cons_of_mem _ List.mem_cons_self)))))
  have d8 := g (List.mem_cons_of_mem _ (List.mem_cons_of_mem _ (List.mem_cons_of_mem _ (List.mem_cons_of_mem _ (List.mem_cons_of_mem _ (List.mem_cons_of_mem _ List.mem_cons_self))))))
  have d9 := g (List.mem_cons_of_mem _ (List.mem_cons_of_mem _ (List.mem_cons_of_mem _ (List.mem_cons_of_mem _ (List.mem_cons_of_mem _ (List.mem_cons_of_mem _ (List.mem_cons_of_mem _ List.mem_cons_self)))))))
  exact ⟨0, 0, 0, 0, 0, 4, 4, ⟨⟨fd (n := 1 - b) (by omega) c0, h_fbo hD' m1 rfl c1⟩, ⟨ln (i := 2) (n := 0) x13 (by decide) (by decide) rfl (by decide) d2, ln (i := 3) (n := 0) x14 (by decide) (by decide) rfl (by decide) d3, ln (i := 4) (n := 0) x16 (by decide) (by decide) rfl (by decide) d4, ln (i := 5) (n := 0) x25 (by decide) (by decide) rfl (by decide) d5, ln (i := 6) (n := 0) x26 (by decide) (by decide) rfl (by decide) d6, ln (i := 7) (n := 0) x27 (by decide) (by decide) rfl (by decide) d7, ln (i := 8) (n := 4) x11 (by decide) (by decide) rfl (by decide) d8, ln (i := 9) (n := 4) x12 (by decide) (by decide) rfl (by decide) d9⟩, ⟨jh, ah, rh.px q1, fun w hw => absurd hw (Nat.not_lt_zero _)⟩, Or.inl ⟨rfl, fd (n := 560 * (1 - b)) (by omega) c3⟩⟩, by omega, by omega, by omega, by omega, by omega, by omega, by omega, by omega, by omega⟩
theorem h_pxf {tys : List (ClassId × FieldType)} {jm am k t : Nat} (hw : z_W z_tt ws tys ts) (hm1 : (q_ad ws)[jm]? = some am) (hm2 : ts[jm]? = some 40) (hk : k < 68) (ht : z_nth (z_tt 40).2.2.1 k = (1, t, 0)) : ∃ (j a : Nat), h_px ws ts jm k t j a := by
  obtain ⟨fs, q1, q2, q3⟩ := h_obj hw hm1 hm2 rfl
  have q2 : fs.length = 68 := q2
  have h9 : fs[k]? = some (fs[k]'(by omega)) := List.getElem?_eq_getElem (by omega)
  have h8 := q3 k _ h9
  rw [ht] at h8
  obtain ⟨j, a, e, z1, z2⟩ := h_rt h8
  rw [e] at h9
  exact ⟨j, a, ⟨am, _, q1, h9⟩, z1, z2⟩
theorem h_m_beach (hA : z_A0 l base D sa) {jm am : Nat} (hm1 : (q_ad ws)[jm]? = some am) (hj : h_Jp jm ws ts) (hc : h_Jc jm ws ts) : z_Met l base D sa z_tt h_kbe (10, 0) 158 [.ref am] ws ts (h_pbe jm) := by
  have hok := hA.2.1
  have hcl := hA.1
  refine z_ofW (fun tys hw hD => ?_)
  obtain ⟨b, jo⟩ : ∃ b, h_Jo jm b ws ts := by
    obtain ⟨b, N, A, U, h⟩ := hj
    exact ⟨b, N, A, U, h⟩
  obtain ⟨hm2, hb, h34⟩ : ts[jm]? = some 40 ∧ b < 2 ∧ h_pl ws jm 34 (.int (nI b)) := by
    obtain ⟨N, A, U, h, -⟩ := jo
    exact ⟨h.1, h.2.1, h.2.2.1⟩
  obtain ⟨j13, a13, x13⟩ := h_pxf hw hm1 hm2 (k := 13) (t := 43) (by decide) rfl
  obtain ⟨j14, a14, x14⟩ := h_pxf hw hm1 hm2 (k := 14) (t := 44) (by decide) rfl
  obtain ⟨j16, a16, x16⟩ := h_pxf hw hm1 hm2 (k := 16) (t := 51) (by decide) rfl
  obtain ⟨j25, a25, x25⟩ := h_pxf hw hm1 hm2 (k := 25) (t := 57) (by decide) rfl
  obtain ⟨j26, a26, x26⟩ := h_pxf hw hm1 hm2 (k := 26) (t := 58) (by decide) rfl
  obtain ⟨j27, a27, x27⟩ := h_pxf hw hm1 hm2 (k := 27) (t := 59) (by decide) rfl
  obtain ⟨j11, a11, x11⟩ := h_pxf hw hm1 hm2 (k := 11) (t := 49) (by decide) rfl
  obtain ⟨j12, a12, x12⟩ := h_pxf hw hm1 hm2 (k := 12) (t := 50) (by decide) rfl
  clear hw hD
  refine y_meth (J := fun _ _ => True) (hok 158 (by decide)) (fun v hv => by rcases List.mem_singleton.mp hv with rfl; rfl) (show 1 ≤ 2 by decide) (fun _ _ _ => trivial) ?_
  intro p e s m below meth cc X hX hC hQ
  have hi : y_i X = 158 := by rw [hX]
  have htt : y_tt X = z_tt := by rw [hX]
  have hkw : y_kw X = h_kbe := by rw [hX]
  have hl : y_l X = l ∧ y_b X = base ∧ y_D X = D ∧ y_sa X = sa := by rw [hX]; exact ⟨rfl, rfl, rfl, rfl⟩
  have hd : y_d X = (10, 0) := by rw [hX]
  clear hX
  obtain ⟨-, -, kk3, kk4, -⟩ := h_kb_ok b hb
  have hcat : ∀ v ∈ [Value.ref am], v.category = 1 := fun v hv => by
    rcases List.mem_singleton.mp hv with rfl
    rfl
  have hta : z_Ta (q_ad ws) ts [(1, 40, 0)] [.ref am] := ⟨h_tvr hm1 hm2, trivial⟩
  have hpf : z_Pf ws ts [(0, 34, (0, 2147483648 + b, 2147483648 + b)), (0, 13, (1, 43, 0)), (0, 14, (1, 44, 0)), (0, 16, (1, 51, 0)), (0, 25, (1, 57, 0)), (0, 26, (1, 58, 0)), (0, 27, (1, 59, 0)), (0, 11, (1, 49, 0)), (0, 12, (1, 50, 0))] [.ref am] (h_bvb am b a13 a14 a16 a25 a26 a27 a11 a12) := by
    refine h34.pf' (bv' := [.ref am, .int (nI b)]) hm1 rfl (h_tvn (by omega) (Nat.le_refl _) (Nat.le_refl _)) rfl ?_
    refine x13.1.pf' (bv' := [.ref am, .int (nI b), .ref a13]) hm1 rfl (h_tvr x13.2.1 x13.2.2) rfl ?_
    refine x14.1.pf' (bv' := [.ref am, .int (nI b), .ref a13, .ref a14]) hm1 rfl (h_tvr x14.2.1 x14.2.2) rfl ?_
    refine x16.1.pf' (bv' := [.ref am, .int (nI b), .ref a13, .ref a14, .ref a16]) hm1 rfl (h_tvr x16.2.1 x16.2.2) rfl ?_
    refine x25.1.pf' (bv' := [.ref am, .int (nI b), .ref a13, .ref a14, .ref a16, .ref a25]) hm1 rfl (h_tvr x25.2.1 x25.2.2) rfl ?_
    refine x26.1.pf' (bv' := [.ref am, .int (nI b), .ref a13, .ref a14, .ref a16, .ref a25, .ref a26]) hm1 rfl (h_tvr x26.2.1 x26.2.2) rfl ?_
    refine x27.1.pf' (bv' := [.ref am, .int (nI b), .ref a13, .ref a14, .ref a16, .ref a25, .ref a26, .ref a27]) hm1 rfl (h_tvr x27.2.1 x27.2.2) rfl ?_
    refine x11.1.pf' (bv' := [.ref am, .int (nI b), .ref a13, .ref a14, .ref a16, .ref a25, .ref a26, .ref a27, .ref a11]) hm1 rfl (h_tvr x11.2.1 x11.2.2) rfl ?_
    refine x12.1.pf' (bv' := [.ref am, .int (nI b), .ref a13, .ref a14, .ref a16, .ref a25, .ref a26, .ref a27, .ref a11, .ref a12]) hm1 rfl (h_tvr x12.2.1 x12.2.2) rfl ?_
    rfl
  have go : ∀ (M : z_M) (ps : List (Nat × Nat × z_C)) (ws2 : va_W) (ts2 : List Nat) (tys2 : List (ClassId × FieldType)), z_W z_tt ws2 tys2 ts2 → va_D (q_A base) ws2 → z_Fr (h_kb1 (1 - b)) ws ts ws2 ts2 → z_CP (z_mst M ps) (h_bvb am b a13 a14 a16 a25 a26 a27 a11 a12) none ws2 ts2 → ps = [(0, 35, (0, 2147483648 + (1 - b), 2147483648 + (1 - b))), (0, 7, (0, 2147483648, 2147485248)), (0, 4, (0, 2147483648, 2147483648)), (0, 36, (0, 2147483648 + 560 * (1 - b), 2147483648 + 560 * (1 - b))), (2, 1 - b, (0, 2147483648, 2147483648)), (3, 1 - b, (0, 2147483648, 2147483648)), (4, 1 - b, (0, 2147483648, 2147483648)), (5, 1 - b, (0, 2147483648, 2147483648)), (6, 1 - b, (0, 2147483648, 2147483648)), (7, 1 - b, (0, 2147483648, 2147483648)), (8, 1 - b, (0, 2147483652, 2147483652)), (9, 1 - b, (0, 2147483652, 2147483652))] → Y X 0 74 [some (.ref am), none] [] ws2 ts2 := by
    intro M ps ws2 ts2 tys2 hw2 hD2 hF2 hcp hps
    exact h_be_loop hA rfl hC hQ hl htt hi hkw hd hb 14 0 ws2 ts2 (by omega) (z_gm hF2.2.1 hm1) (z_gm hF2.1 hm2) (jo.frk kk3 hF2) (hc.frk kk4 hF2 hw2 hm1 h34 hb) (Or.inr (h_be_st hb hm1 hm2 x13 x14 x16 x25 x26 x27 x11 x12 hw2 hD2 hF2 hcp hps))
  show Y X 0 0 [some (.ref am), none] [] ws ts
  rcases (show b = 0 ∨ b = 1 by omega) with rfl | rfl
  · exact y_z (J := fun _ _ => True) (M := z_m_beach0) (av := [.ref am]) hA hC hQ hl htt hi (by decide) hd hcat rfl hta hpf (z_p1 (r_goOn hA z_JK_T) z_p0) (fun _ _ _ => trivial) (by rw [hkw]; exact h_wcov (by decide +kernel)) z_k_beach0 (fun ws2 ts2 tys2 hw2 hD2 hF2 hcp => go _ _ ws2 ts2 tys2 hw2 hD2 hF2 hcp rfl) (fun v ws5 ts5 tys5 hw5 hD5 hF5 hcp => (h_nopo rfl hcp).elim)
  · exact y_z (J := fun _ _ => True) (M := z_m_beach1) (av := [.ref am]) hA hC hQ hl htt hi (by decide) hd hcat rfl hta hpf (z_p1 (r_goOn hA z_JK_T) z_p0) (fun _ _ _ => trivial) (by rw [hkw]; exact h_wcov (by decide +kernel)) z_k_beach1 (fun ws2 ts2 tys2 hw2 hD2 hF2 hcp => go _ _ ws2 ts2 tys2 hw2 hD2 hF2 hcp rfl) (fun v ws5 ts5 tys5 hw5 hD5 hF5 hcp => (h_nopo rfl hcp).elim)
end HK
