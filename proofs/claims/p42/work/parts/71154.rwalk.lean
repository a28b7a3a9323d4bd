/-! ===== by hand: readWalker ===== -/
theorem h_qv {y : Int32} {n : Nat} (hn : n < 2147483648) (h : q_qb y = 2147483648 + n) : y = nI n := by
  obtain ⟨m, m1, m2, m3⟩ := z_nat (x := y) (by omega)
  rw [m2, show m = n by omega]
theorem h_none {v : Option Value} (h : v.toList = []) : v = none := by
  cases v with
  | none => rfl
  | some _ => cases h
/-- lane b of a row -/
def h_ln (ws : va_W) (ts : List Nat) (jm k t b : Nat) (v : Int32) : Prop := ∃ (j a : Nat), h_px ws ts jm k t j a ∧ h_pl ws j b (.int v)
/-- a field between bounds -/
def h_fb (ws : va_W) (jm k lo hi : Nat) : Prop := ∃ x : Int32, h_pl ws jm k (.int x) ∧ lo ≤ q_qb x ∧ q_qb x ≤ hi
section HL
variable {ws ws' : va_W} {ts ts' : List Nat} {kc : List z_C} {jm am b : Nat}
theorem h_ln.fr {k t : Nat} {v : Int32} (hf : z_Fr kc ws ts ws' ts') (hm : ts[jm]? = some 40) (k1 : ¬ z_wr kc 40 k) (k2 : ¬ z_wr kc t b) (h : h_ln ws ts jm k t b v) : h_ln ws' ts' jm k t b v := by
  obtain ⟨j, a, h1, h2⟩ := h
  exact ⟨j, a, h1.fr hf hm k1, h2.fr hf h1.2.2 k2⟩
theorem h_fb.fr {k lo hi : Nat} (hf : z_Fr kc ws ts ws' ts') (hm : ts[jm]? = some 40) (k1 : ¬ z_wr kc 40 k) (h : h_fb ws jm k lo hi) : h_fb ws' jm k lo hi := by
  obtain ⟨x, h1, h2⟩ := h
  exact ⟨x, h1.fr hf hm k1, h2⟩
theorem h_rel {A : Nat → Prop} (hD' : va_D A ws') (hf : z_Fr kc ws ts ws' ts') (hm : ts[jm]? = some 40) {k t j a i s dl n : Nat} (k1 : ¬ z_wr kc 40 k) {bv : List Value} (hx : h_px ws ts jm k t j a) (hb : bv[i]? = some (.ref a)) (h : ∃ (a j : Nat) (e : va_E) (y y0 : Int32), bv[i]? = some (.ref a) ∧ ws'[j]? = some (a, e) ∧ z_at e b = some (.int y) ∧ bv[s]? = some (.int y0) ∧ q_qb y = q_qb y0 + dl) (hs : bv[s]? = some (.int (nI n))) (hn : n + dl < 2147483648) : h_ln ws' ts' jm k t b (nI (n + dl)) := by
  obtain ⟨a2, j2, e, y, y0, g1, g2, g3, g4, g5⟩ := h
  rw [hb] at g1
  cases g1
  rw [hs] at g4
  cases g4
  rw [z_qnI (by omega)] at g5
  have ey := h_qv hn (y := y) (by omega)
  subst ey
  have h2 := z_gm hf.2.1 hx.2.1
  rw [List.getElem?_map] at h2
  cases h9 : ws'[j]? with
  | none => rw [h9] at h2; cases h2
  | some q9 =>
    rw [h9] at h2
    obtain ⟨a9, e9⟩ := q9
    cases h2
    obtain ⟨rfl, rfl⟩ := h_same hD' g2 h9
    exact ⟨j2, a9, hx.fr hf hm k1, ⟨a9, _, g2, g3⟩⟩
/-- a field of this that an end tells of -/
theorem h_fbo {A : Nat → Prop} (hD' : va_D A ws') (hm1 : (q_ad ws')[jm]? = some am) {k lo hi : Nat} {bv : List Value} (hb : bv[0]? = some (.ref am)) (h : ∃ (a j : Nat) (e : va_E) (r : Value), bv[0]? = some (.ref a) ∧ ws'[j]? = some (a, e) ∧ z_at e k = some r ∧ z_tv (q_ad ws') ts' (0, lo, hi) r) : h_fb ws' jm k lo hi := by
  obtain ⟨a2, j2, e, r, g1, g2, g3, g4⟩ := h
  rw [hb] at g1
  cases g1
  have h2 := hm1
  rw [List.getElem?_map] at h2
  cases h9 : ws'[jm]? with
  | none => rw [h9] at h2; cases h2
  | some q9 =>
    rw [h9] at h2
    obtain ⟨a9, e9⟩ := q9
    cases h2
    obtain ⟨rfl, rfl⟩ := h_same hD' g2 h9
    obtain ⟨x, rfl, x1, x2⟩ := h_tvi g4
    exact ⟨x, ⟨_, _, g2, g3⟩, x1, x2⟩
end HL
theorem z_alt_nil {sa : Nat → Nat} {M : z_M} {cs : List z_C} {o : z_O} {R : z_R} {ad ts : List Nat} {vs' sv : List Value} (h : z_altk M cs o R = true) (hs : z_Sr sa ad ts vs' o.2.2.2 sv) : sv = [] := by
  obtain ⟨h1, -⟩ := q_ands h
  obtain ⟨d1, -⟩ := q_ands h1
  have d1 : (match o.2.2.2 with
    | [] => true
    | _ => false) = true := d1
  cases h9 : o.2.2.2 with
  | nil =>
    rw [h9] at hs
    exact hs.nil
  | cons _ _ => rw [h9] at d1; cases d1
def h_Mcell (b c r : Nat) : z_M := (267, [(1, 40, 0), (0, 0, 4294967295)], [(0, 35, (0, 2147483648 + b, 2147483648 + b)), (0, 7, (0, 2147483648, 2147485248)), (0, 11, (1, 49, 0)), (4, b, (0, 2147483648 + c, 2147483648 + c)), (0, 12, (1, 50, 0)), (6, b, (0, 2147483648 + r, 2147483648 + r))], [(40, 2147483652, 2147483658)], 0, 3, true, [(0, 2147483648, 2147483647 + c * r)], [(0, 7, (0, 2147483648, 2147485248))])
def h_krw (b : Nat) : List z_C := [(40, 2147483652, 2147483658), (51, 2147483648 + b, 2147483648 + b), (53, 2147483648 + 5 * b, 2147483652 + 5 * b), (54, 2147483648 + 5 * b, 2147483652 + 5 * b), (52, 2147483648 + 5 * b, 2147483652 + 5 * b)]
/-- the new bank's homes are on its board -/
def h_hm (ws : va_W) (ts : List Nat) (jm b n N : Nat) : Prop := ∃ (jh ah : Nat), h_px ws ts jm 20 52 jh ah ∧ ∀ w, w < n → h_lt ws jh (5 * b + w) N
theorem h_hm.fr {ws ws' : va_W} {ts ts' : List Nat} {kc : List z_C} {jm b n N : Nat} (hf : z_Fr kc ws ts ws' ts') (hm : ts[jm]? = some 40) (k1 : ¬ z_wr kc 40 20) (k2 : ∀ w, w < n → ¬ z_wr kc 52 (5 * b + w)) (h : h_hm ws ts jm b n N) : h_hm ws' ts' jm b n N := by
  obtain ⟨j, a, h1, h2⟩ := h
  exact ⟨j, a, h1.fr hf hm k1, fun w hw => (h2 w hw).fr hf h1.2.2 (k2 w hw)⟩
def h_prw (jm b wk N : Nat) : Option Value → va_W → List Nat → Prop := fun v ws ts => v = none ∧ (h_fb ws jm 4 2147483649 4294967295 ∨ (h_fb ws jm 7 2147483648 2147485248 ∧ h_ln ws ts jm 16 51 b (nI (wk + 1)) ∧ h_hm ws ts jm b (wk + 1) N))
section HK
variable {l : Launch} {base : Nat} {D : va_G} {sa : Nat → Nat} {ws : va_W} {ts : List Nat}
theorem r_cellall (hA : z_A0 l base D sa) {b c r : Nat} (hb : b < 2) (hc : 2 ≤ c ∧ c ≤ 5) (hr : 2 ≤ r ∧ r ≤ 5) : z_Con l base D sa z_tt (fun _ _ => True) (h_Mcell b c r) := by
  rcases (show b = 0 ∨ b = 1 by omega) with rfl | rfl <;> rcases (show c = 2 ∨ c = 3 ∨ c = 4 ∨ c = 5 by omega) with rfl | rfl | rfl | rfl <;> rcases (show r = 2 ∨ r = 3 ∨ r = 4 ∨ r = 5 by omega) with rfl | rfl | rfl | rfl
  · exact r_cell_0_2_2 hA
  · exact r_cell_0_2_3 hA
  · exact r_cell_0_2_4 hA
  · exact r_cell_0_2_5 hA
  · exact r_cell_0_3_2 hA
  · exact r_cell_0_3_3 hA
  · exact r_cell_0_3_4 hA
  · exact r_cell_0_3_5 hA
  · exact r_cell_0_4_2 hA
  · exact r_cell_0_4_3 hA
  · exact r_cell_0_4_4 hA
  · exact r_cell_0_4_5 hA
  · exact r_cell_0_5_2 hA
  · exact r_cell_0_5_3 hA
  · exact r_cell_0_5_4 hA
  · exact r_cell_0_5_5 hA
  · exact r_cell_1_2_2 hA
  · exact r_cell_1_2_3 hA
  · exact r_cell_1_2_4 hA
  · exact r_cell_1_2_5 hA
  · exact r_cell_1_3_2 hA
  · exact r_cell_1_3_3 hA
  · exact r_cell_1_3_4 hA
  · exact r_cell_1_3_5 hA
  · exact r_cell_1_4_2 hA
  · exact r_cell_1_4_3 hA
  · exact r_cell_1_4_4 hA
  · exact r_cell_1_4_5 hA
  · exact r_cell_1_5_2 hA
  · exact r_cell_1_5_3 hA
  · exact r_cell_1_5_4 hA
  · exact r_cell_1_5_5 hA
theorem h_m_rw (hA : z_A0 l base D sa) {jm am b c r wk : Nat} (hb : b < 2) (hm1 : (q_ad ws)[jm]? = some am) (hm2 : ts[jm]? = some 40) (h35 : h_pl ws jm 35 (.int (nI b))) (h7 : h_fb ws jm 7 2147483648 2147485248) (hW : h_ln ws ts jm 16 51 b (nI wk)) (hwk : wk ≤ 4) (hc : h_ln ws ts jm 11 49 b (nI c)) (hc2 : 2 ≤ c ∧ c ≤ 5) (hr : h_ln ws ts jm 12 50 b (nI r)) (hr2 : 2 ≤ r ∧ r ≤ 5) (hh : h_hm ws ts jm b wk (c * r)) : z_Met l base D sa z_tt (h_krw b) (6, 0) 271 [.ref am] ws ts (h_prw jm b wk (c * r)) := by
  have hok := hA.2.1
  have hcl := hA.1
  have hcr : c * r ≤ 25 := Nat.mul_le_mul hc2.2 hr2.2
  refine y_meth (J := fun _ _ => True) (hok 271 (by decide)) (fun v hv => by rcases List.mem_singleton.mp hv with rfl; rfl) (show 1 ≤ 2 by decide) (fun _ _ _ => trivial) ?_
  intro p e s m below meth cc X hX hC hQ
  have hi : y_i X = 271 := by rw [hX]
  have htt : y_tt X = z_tt := by rw [hX]
  have hkw : y_kw X = h_krw b := by rw [hX]
  have hl : y_l X = l ∧ y_b X = base ∧ y_D X = D ∧ y_sa X = sa := by rw [hX]; exact ⟨rfl, rfl, rfl, rfl⟩
  have hd : y_d X = (6, 0) := by rw [hX]
  clear hX
  obtain ⟨rfl, rfl, rfl, rfl⟩ := hl
  have E := y_Ei hok hi (by decide) (cd := q_cd271) rfl
  have hn : (0 : Nat) ≤ (y_d X).2 := Nat.zero_le _
  obtain ⟨x7, h71, h72, h73⟩ := id h7
  obtain ⟨jw, aw, w1, w2⟩ := id hW
  have hpf : z_Pf ws ts [(0, 35, (0, 2147483648 + b, 2147483648 + b)), (0, 7, (0, 2147483648, 2147485248)), (0, 16, (1, 51, 0)), (3, b, (0, 2147483648, 2147483652))] [.ref am] [.ref am, .int (nI b), .int x7, .ref aw, .int (nI wk)] := h35.pf hm1 rfl (h_tvn (by omega) (Nat.le_refl _) (Nat.le_refl _)) (h71.pf hm1 rfl (Or.inl ⟨rfl, _, rfl, h72, h73⟩) (w1.1.pf hm1 rfl (h_tvr w1.2.1 w1.2.2) (w2.pf w1.2.1 rfl (h_tvn (by omega) (by omega) (by omega)) rfl)))
  have hta : z_Ta (q_ad ws) ts [(1, 40, 0)] [.ref am] := ⟨h_tvr hm1 hm2, trivial⟩
  -- the second half
  have half : ∀ (ws3 : va_W) (ts3 : List Nat), (q_ad ws3)[jm]? = some am → ts3[jm]? = some 40 → h_pl ws3 jm 35 (.int (nI b)) → h_fb ws3 jm 7 2147483648 2147485248 → h_ln ws3 ts3 jm 16 51 b (nI wk) → h_hm ws3 ts3 jm b (wk + 1) (c * r) → Y X 0 100 [some (.ref am), some (.int (nI (5 * b + wk)))] [] ws3 ts3 := by
    intro ws3 ts3 m1 m2 g35 g7 gW gh
    obtain ⟨x8, g71, g72, g73⟩ := id g7
    obtain ⟨jw3, aw3, v1, v2⟩ := id gW
    have gpf : z_Pf ws3 ts3 [(0, 35, (0, 2147483648 + b, 2147483648 + b)), (0, 7, (0, 2147483648, 2147485248)), (0, 16, (1, 51, 0)), (4, b, (0, 2147483648, 2147483652))] [.ref am, .int (nI (5 * b + wk))] [.ref am, .int (nI (5 * b + wk)), .int (nI b), .int x8, .ref aw3, .int (nI wk)] := g35.pf m1 rfl (h_tvn (by omega) (Nat.le_refl _) (Nat.le_refl _)) (g71.pf m1 rfl (Or.inl ⟨rfl, _, rfl, g72, g73⟩) (v1.1.pf m1 rfl (h_tvr v1.2.1 v1.2.2) (v2.pf v1.2.1 rfl (h_tvn (by omega) (by omega) (by omega)) rfl)))
    have gta : z_Ta (q_ad ws3) ts3 [(1, 40, 0), (0, 2147483648 + 5 * b, 2147483652 + 5 * b)] [.ref am, .int (nI (5 * b + wk))] := ⟨h_tvr m1 m2, h_tvn (by omega) (by omega) (by omega), trivial⟩
    refine v_y (fun ls hL => ?_)
    obtain ⟨lv, l1, -, l3⟩ := hL.2
    rw [hi] at l1
    have hcat : ∀ v ∈ [Value.ref am, .int (nI (5 * b + wk))], v.category = 1 := fun v hv => by
      rcases List.mem_cons.mp hv with rfl | hv
      · rfl
      rcases List.mem_singleton.mp hv with rfl
      rfl
    have hlv : ∀ k v, [Value.ref am, .int (nI (5 * b + wk))][k]? = some v → (k, v) ∈ lv := fun k v hk => l3 k v (by
      match k, hk with
      | 0, hk => cases hk; rfl
      | 1, hk => cases hk; rfl
      | k + 2, hk => cases hk)
    have fin : ∀ (M : z_M) (R : z_R) (v : Option Value) (ws4 : va_W) (ts4 : List Nat), h_off M.2.2.2.1 40 11 20 = true → h_not M.2.2.2.1 52 = true → R = ([(0, 7, (0, 2147483648, 2147485248))], [(4, b, 5, 1)], []) → va_D (q_A (y_b X)) ws4 → z_Fr M.2.2.2.1 ws3 ts3 ws4 ts4 → z_altP M [.ref am, .int (nI (5 * b + wk)), .int (nI b), .int x8, .ref aw3, .int (nI wk)] ws4 ts4 R → v.toList = [] → h_prw jm b wk (c * r) v ws4 ts4 := by
      intro M R v ws4 ts4 hk1 hk2 hR hD4 hF4 hal hv4
      subst hR
      refine ⟨h_none hv4, Or.inr ⟨?_, ?_, ?_⟩⟩
      · exact h_fbo hD4 (z_gm hF4.2.1 m1) rfl (hal.1.2 (0, 7, (0, 2147483648, 2147485248)) (List.mem_singleton.mpr rfl))
      · exact h_rel hD4 hF4 m2 (h_offs hk1 16 (by omega) (by omega)) v1 (i := 4) (s := 5) rfl (hal.2.1 (4, b, 5, 1) (List.mem_singleton.mpr rfl)) rfl (by omega)
      · exact gh.fr hF4 m2 (h_offs hk1 20 (by omega) (by omega)) (fun w _ => h_nots hk2 _)
    rcases (show b = 0 ∨ b = 1 by omega) with rfl | rfl
    · refine y_runs (J := fun _ _ => True) (M := z_m_rwc0) (av := [.ref am, .int (nI (5 * 0 + wk))]) hA hC ⟨rfl, rfl, rfl, rfl⟩ htt hi (by decide) hd hcat l1 hlv gta gpf (z_P_rwc0 hA) (fun _ _ _ => trivial) (by rw [hkw]; exact h_wsub (by decide)) z_k_rwc0 ?_
      intro cs o vs2 vs' ls' sv ws4 ts4 tys4 hchk hcs hw4 hD4 hF4 hv4 hL4 hs4
      obtain ⟨c1, c2⟩ := q_ands hchk
      have hsv := z_alt_nil c2 hs4
      subst hsv
      exact y_rend hok hC hQ hi (by decide) hd c1 hv4 hL4 hs4 (fun v hv9 => fin _ _ v ws4 ts4 (by decide) (by decide) rfl hD4 hF4 (z_alt_s c2 hv4 hs4 hcs) hv9)
    · refine y_runs (J := fun _ _ => True) (M := z_m_rwc1) (av := [.ref am, .int (nI (5 * 1 + wk))]) hA hC ⟨rfl, rfl, rfl, rfl⟩ htt hi (by decide) hd hcat l1 hlv gta gpf (z_P_rwc1 hA) (fun _ _ _ => trivial) (by rw [hkw]; exact h_wsub (by decide)) z_k_rwc1 ?_
      intro cs o vs2 vs' ls' sv ws4 ts4 tys4 hchk hcs hw4 hD4 hF4 hv4 hL4 hs4
      obtain ⟨c1, c2⟩ := q_ands hchk
      have hsv := z_alt_nil c2 hs4
      subst hsv
      exact y_rend hok hC hQ hi (by decide) hd c1 hv4 hL4 hs4 (fun v hv9 => fin _ _ v ws4 ts4 (by decide) (by decide) rfl hD4 hF4 (z_alt_s c2 hv4 hs4 hcs) hv9)
  -- the home
  have mid : ∀ (ws1 : va_W) (ts1 : List Nat), z_Fr [(40, 2147483652, 2147483658)] ws ts ws1 ts1 → h_fb ws1 jm 7 2147483648 2147485248 → Y X 0 81 [some (.ref am), some (.int (nI (5 * b + wk)))] [] ws1 ts1 := by
    intro ws1 ts1 hF1 g7
    have m1 := z_gm hF1.2.1 hm1
    have m2 := z_gm hF1.1 hm2
    have g35 := h35.fr hF1 hm2 (h_offs (lo := 35) (hi := 35) rfl _ (by omega) (by omega))
    have gW := hW.fr hF1 hm2 (h_offs (lo := 16) (hi := 16) rfl _ (by omega) (by omega)) (h_nots rfl _)
    have gc := hc.fr hF1 hm2 (h_offs (lo := 11) (hi := 11) rfl _ (by omega) (by omega)) (h_nots rfl _)
    have gr := hr.fr hF1 hm2 (h_offs (lo := 12) (hi := 12) rfl _ (by omega) (by omega)) (h_nots rfl _)
    have gh := hh.fr hF1 hm2 (h_offs (lo := 20) (hi := 20) rfl _ (by omega) (by omega)) (fun w _ => h_nots rfl _)
    obtain ⟨x8, g71, g72, g73⟩ := id g7
    obtain ⟨jc, ac, c1, c2⟩ := id gc
    obtain ⟨jr, ar, r1, r2⟩ := id gr
    obtain ⟨jh, ah, k1, k2⟩ := id gh
    refine y_ty (fun tys1 hw1 hD1 => ?_)
    rw [htt] at hw1
    obtain ⟨fs1, q1, q2, q3⟩ := h_obj hw1 m1 m2 rfl
    have q1 : ws1[jm]? = some (am, .inr (9, fs1)) := q1
    have q2 : fs1.length = 68 := q2
    obtain ⟨jt, atx, cT, ft, t1, t2, t3, -⟩ := h_fa hw1 q2 q3 (k := 15) (t := 45) (u := 0) (by decide) rfl rfl
    have rt : h_row ws1 ts1 fs1 15 45 2 jt atx cT ft := ⟨t1, t2, t3⟩
    have f20 := k1.1.fld q1
    have f35 := g35.fld q1
    refine y_aln hC (E 43 _ rfl) rfl ?_
    refine y_get hcl hC (E 44 _ rfl) q1 f20 ?_
    refine y_iln hC (E 45 _ rfl) rfl ?_
    refine y_aln hC (E 46 _ rfl) rfl ?_
    refine y_aln hC (E 47 _ rfl) rfl ?_
    refine y_get hcl hC (E 48 _ rfl) q1 rt.1 ?_
    refine y_aln hC (E 49 _ rfl) rfl ?_
    refine y_get hcl hC (E 50 _ rfl) q1 f35 ?_
    refine y_ald hC (E 51 _ rfl) rt.2.1 rt.2.2 (by rw [htt]; rfl) hb (by decide) ?_
    have cpf : z_Pf ws1 ts1 (h_Mcell b c r).2.2.1 [.ref am, .int (ft b)] [.ref am, .int (ft b), .int (nI b), .int x8, .ref ac, .int (nI c), .ref ar, .int (nI r)] := g35.pf m1 rfl (h_tvn (by omega) (Nat.le_refl _) (Nat.le_refl _)) (g71.pf m1 rfl (Or.inl ⟨rfl, _, rfl, g72, g73⟩) (c1.1.pf m1 rfl (h_tvr c1.2.1 c1.2.2) (c2.pf c1.2.1 rfl (h_tvn (by omega) (Nat.le_refl _) (Nat.le_refl _)) (r1.1.pf m1 rfl (h_tvr r1.2.1 r1.2.2) (r2.pf r1.2.1 rfl (h_tvn (by omega) (Nat.le_refl _) (Nat.le_refl _)) rfl)))))
    have cM := r_cellall hA hb hc2 hr2 ws1 ts1 [.ref am, .int (ft b)] _ ⟨h_tvr m1 m2, h_tint _ _ _, trivial⟩ cpf trivial
    refine y_vir hok hC (E 52 _ rfl) (by decide) (As := [.int (ft b)]) (rv := [.int (nI (5 * b + wk)), .ref ah]) (dd := (3, 0)) (by rw [htt]; exact cM) q1 rfl rfl (by rw [hd]; decide) hn (show 2 ≤ 8 by decide) (by
      rw [hkw]
      intro t q hq
      obtain ⟨e, e1, e2, e3, e4⟩ := z_kw_iff.mp hq
      rcases List.mem_singleton.mp e1 with rfl
      exact z_kw_iff.mpr ⟨_, List.mem_cons_self, e2, e3, e4⟩) (fun v ws2 ts2 hF2 hp => ?_)
    have hF2 : z_Fr [(40, 2147483652, 2147483658)] ws1 ts1 ws2 ts2 := hF2
    have hp1 := hp.1
    rw [if_pos (show (h_Mcell b c r).2.2.2.2.2.2.1 = true from rfl)] at hp1
    obtain ⟨t, t1, x, rfl, t2⟩ := hp1
    rcases List.mem_singleton.mp t1 with rfl
    obtain ⟨y, rfl, y1, y2⟩ := h_tvi t2
    have m12 := z_gm hF2.2.1 m1
    have m22 := z_gm hF2.1 m2
    refine y_ty (fun tys2 hw2 hD2 => ?_)
    rw [htt] at hw2
    obtain ⟨fs2, s1, s2, s3⟩ := h_obj hw2 m12 m22 rfl
    have s1 : ws2[jm]? = some (am, .inr (9, fs2)) := s1
    have u1 : h_px ws2 ts2 jm 20 52 jh ah := k1.fr hF2 m2 (h_offs (lo := 20) (hi := 20) rfl _ (by omega) (by omega))
    obtain ⟨cH, fh, rh⟩ := u1.see hw2 s1 rfl
    have rh : h_row ws2 ts2 fs2 20 52 10 jh ah cH fh := rh
    have f7 := h_fbo hD2 m12 (bv := [.ref am, .int (ft b), .int (nI b), .int x8, .ref ac, .int (nI c), .ref ar, .int (nI r)]) rfl (hp.2 (0, 7, (0, 2147483648, 2147485248)) (List.mem_singleton.mpr rfl))
    show Y X 0 99 _ [.int y, .int (nI (5 * b + wk)), .ref ah] ws2 ts2
    refine y_ast hC (E 53 _ rfl) rh.2.1 rh.2.2 (by rw [htt]; rfl) (show 5 * b + wk < 10 by omega) (by decide) ?_ (by rw [hkw]; exact h_wrm (lo := 2147483648 + 5 * b) (hi := 2147483652 + 5 * b) (by unfold h_krw; exact List.mem_cons_of_mem _ (List.mem_cons_of_mem _ (List.mem_cons_of_mem _ (List.mem_cons_of_mem _ List.mem_cons_self)))) (by omega) (by omega)) ?_
    · rw [htt]
      show (z_el [(10, 2147483648, 2147483672)] ((5 * b + wk) % 10)).1 ≤ _ ∧ _ ≤ (z_el [(10, 2147483648, 2147483672)] ((5 * b + wk) % 10)).2
      rw [h_el25 _ (by decide)]
      exact ⟨y1, by show q_qb y ≤ 2147483672; omega⟩
    have fr9 := h_setfr (kw := [(52, 2147483648, 2147483657)]) (v := y) rh.2.1 rh.2.2 (h_wrm (q := 5 * b + wk) List.mem_cons_self (by omega) (by omega))
    have njm : ¬ jh = jm := h_tne rh.2.2 m22 (by decide)
    have s9 := h_getset (y := (ah, (.inl (cH, 10, .inl (upd fh (5 * b + wk) y)) : va_E))) s1 njm
    have r9 := rh.self (upd fh (5 * b + wk) y)
    refine half _ _ (h_ad s9) m22 ((g35.fr hF2 m2 (h_offs (lo := 35) (hi := 35) rfl _ (by omega) (by omega))).fr fr9 m22 (h_nots rfl _)) (f7.fr fr9 m22 (h_nots rfl _)) ((gW.fr hF2 m2 (h_offs (lo := 16) (hi := 16) rfl _ (by omega) (by omega)) (h_nots rfl _)).fr fr9 m22 (h_nots rfl _) (h_nots rfl _)) ⟨jh, ah, r9.px s9, fun w hw => r9.mk (by omega) ?_⟩
    by_cases ek : w = wk
    · subst ek
      rw [pk_us]
      omega
    · rw [pk_un (by omega)]
      exact rh.lt (by omega) ((k2 w (by omega)).fr hF2 k1.2.2 (h_nots rfl _))
  show Y X 0 0 [some (.ref am), none] [] ws ts
  refine v_y (fun ls hL => ?_)
  obtain ⟨lv, l1, -, l3⟩ := hL.2
  rw [hi] at l1
  have hlv : ∀ k v, [Value.ref am][k]? = some v → (k, v) ∈ lv := fun k v hk => l3 k v (by
    match k, hk with
    | 0, hk => cases hk; rfl
    | k + 1, hk => cases hk)
  have hcat : ∀ v ∈ [Value.ref am], v.category = 1 := fun v hv => by
    rcases List.mem_singleton.mp hv with rfl
    rfl
  have stop : ∀ (ls' : Array Slot) (ws1 : va_W) (ts1 : List Nat) (y y0 : Int32) (lv' : List (Nat × Value)), lv_has ls' 2 lv' → ls'[0]? = some (.val (.ref am)) → ls'[1]? = some (.val (.int y)) → [Value.ref am, .int (nI b), .int x7, .ref aw, .int (nI wk)][4]? = some (.int y0) → q_qb y = q_qb y0 + 5 * b → z_Fr [(40, 2147483652, 2147483658)] ws ts ws1 ts1 → h_fb ws1 jm 7 2147483648 2147485248 → y_V X 0 81 ls' [] ws1 ts1 := by
    intro ls' ws1 ts1 y y0 lv' hlv' h0 h1 hy0 hy hF1 g7
    cases hy0
    rw [z_qnI (by omega)] at hy
    have ey := h_qv (n := 5 * b + wk) (by omega) (y := y) (by omega)
    subst ey
    exact v_of (mid ws1 ts1 hF1 g7) (by
      rw [hi]
      exact y_L2 (nL := 2) (v := .ref am) (w := .int (nI (5 * b + wk))) ⟨hlv'.1, hlv'.2.1, fun q hq => by
        rcases List.mem_cons.mp hq with rfl | hq
        · exact h0
        · rcases List.mem_singleton.mp hq with rfl
          exact h1⟩ rfl rfl (by decide))
  have bad : ∀ (M : z_M) (v : Option Value) (ws1 : va_W) (ts1 : List Nat), va_D (q_A (y_b X)) ws1 → z_Fr M.2.2.2.1 ws ts ws1 ts1 → z_altP M [.ref am, .int (nI b), .int x7, .ref aw, .int (nI wk)] ws1 ts1 z_Rwf → v.toList = [] → h_prw jm b wk (c * r) v ws1 ts1 := by
    intro M v ws1 ts1 hD1 hF1 hal hv1
    refine ⟨h_none hv1, Or.inl ?_⟩
    exact h_fbo hD1 (z_gm hF1.2.1 hm1) rfl (hal.1.2 (0, 4, (0, 2147483649, 4294967295)) (List.mem_singleton.mpr rfl))
  rcases (show b = 0 ∨ b = 1 by omega) with rfl | rfl
  · refine y_runs (J := fun _ _ => True) (M := z_m_rwa0) (av := [.ref am]) hA hC ⟨rfl, rfl, rfl, rfl⟩ htt hi (by decide) hd hcat l1 hlv hta hpf (z_P_rwa0 hA) (fun _ _ _ => trivial) (by rw [hkw]; exact h_wsub (by decide)) z_k_rwa0 ?_
    intro cs o vs2 vs' ls' sv ws4 ts4 tys4 hchk hcs hw4 hD4 hF4 hv4 hL4 hs4
    unfold z_c_rwa0 at hchk
    cases hb9 : Nat.beq o.1 81 with
    | true =>
      rw [hb9] at hchk
      obtain ⟨c1, hchk⟩ := q_ands hchk
      obtain ⟨c2, hchk⟩ := q_ands hchk
      obtain ⟨c3, c4⟩ := q_ands hchk
      have hsv := z_alt_nil c4 hs4
      subst hsv
      obtain ⟨y, y0, y1, y2, y3⟩ := z_int1 c2 hv4 hL4 hcs
      have hal := z_alt_s c4 hv4 hs4 hcs
      rw [q_beq.mp c3, q_beq.mp hb9]
      obtain ⟨lv', l1', -⟩ := hL4.2
      exact stop ls' ws4 ts4 y y0 lv' l1' (z_this c1 hv4 hL4 hcs rfl) y1 y2 y3 hF4 (h_fbo hD4 (z_gm hF4.2.1 hm1) rfl (hal.1.2 (0, 7, (0, 2147483648, 2147485248)) (List.mem_singleton.mpr rfl)))
    | false =>
      rw [hb9] at hchk
      obtain ⟨c1, c2⟩ := q_ands hchk
      have hsv := z_alt_nil c2 hs4
      subst hsv
      exact y_rend hok hC hQ hi (by decide) hd c1 hv4 hL4 hs4 (fun v hv9 => bad _ v ws4 ts4 hD4 hF4 (z_alt_s c2 hv4 hs4 hcs) hv9)
  · refine y_runs (J := fun _ _ => True) (M := z_m_rwa1) (av := [.ref am]) hA hC ⟨rfl, rfl, rfl, rfl⟩ htt hi (by decide) hd hcat l1 hlv hta hpf (z_P_rwa1 hA) (fun _ _ _ => trivial) (by rw [hkw]; exact h_wsub (by decide)) z_k_rwa1 ?_
    intro cs o vs2 vs' ls' sv ws4 ts4 tys4 hchk hcs hw4 hD4 hF4 hv4 hL4 hs4
    unfold z_c_rwa1 at hchk
    cases hb9 : Nat.beq o.1 81 with
    | true =>
      rw [hb9] at hchk
      obtain ⟨c1, hchk⟩ := q_ands hchk
      obtain ⟨c2, hchk⟩ := q_ands hchk
      obtain ⟨c3, c4⟩ := q_ands hchk
      have hsv := z_alt_nil c4 hs4
      subst hsv
      obtain ⟨y, y0, y1, y2, y3⟩ := z_int1 c2 hv4 hL4 hcs
      have hal := z_alt_s c4 hv4 hs4 hcs
      rw [q_beq.mp c3, q_beq.mp hb9]
      obtain ⟨lv', l1', -⟩ := hL4.2
      exact stop ls' ws4 ts4 y y0 lv' l1' (z_this c1 hv4 hL4 hcs rfl) y1 y2 y3 hF4 (h_fbo hD4 (z_gm hF4.2.1 hm1) rfl (hal.1.2 (0, 7, (0, 2147483648, 2147485248)) (List.mem_singleton.mpr rfl)))
    | false =>
      rw [hb9] at hchk
      obtain ⟨c1, c2⟩ := q_ands hchk
      have hsv := z_alt_nil c2 hs4
      subst hsv
      exact y_rend hok hC hQ hi (by decide) hd c1 hv4 hL4 hs4 (fun v hv9 => bad _ v ws4 ts4 hD4 hF4 (z_alt_s c2 hv4 hs4 hcs) hv9)
end HK
