/-! ===== behindUnit ===== -/
def h_Mmis : z_M := (262, [(1, 40, 0)], [], [(40, 2147483652, 2147483653)], 0, 1, false, [], [(0, 4, (0, 2147483649, 4294967295))])
def h_Mgo : z_M := (159, [(1, 40, 0)], [(0, 7, (0, 2147483648, 2147485248))], [(40, 2147483654, 2147483658)], 0, 1, false, [], [(0, 7, (0, 2147483648, 2147485248))])
def h_Mmust : z_M := (263, [(1, 40, 0), (0, 2147483648, 2147483649)], [(0, 7, (0, 2147483648, 2147485248))], [(40, 2147483652, 2147483658)], 0, 2, false, [], [(0, 7, (0, 2147483648, 2147485248))])
theorem h_kf1 {lo hi : Nat} (h1 : 2147483652 ≤ lo) (h2 : hi ≤ 2147483658) : h_kf [(40, lo, hi)] := fun t q hq => by
  obtain ⟨e, e1, e2, e3, e4⟩ := z_kw_iff.mp hq
  rcases List.mem_singleton.mp e1 with rfl
  have e3 : lo ≤ 2147483648 + q := e3
  have e4 : 2147483648 + q ≤ hi := e4
  exact ⟨e2.symm, by omega, by omega⟩
def h_bad (fs : List Value) : Prop := ∃ x : Int32, fs[4]? = some (.int x) ∧ ¬ x = 0
/-- behind behindUnit -/
def h_pbu (jm am rb p0 u P : Nat) : Option Value → va_W → List Nat → Prop := fun v ws ts => ∃ fs, h_ob ws ts jm am fs ∧ h_en fs ∧ ((h_bad fs ∧ ∃ b, b < 2 ∧ v = some (.int (nI b))) ∨ (v = some (.int (nI 1)) ∧ ∃ pi wi, h_pF ws ts jm am rb p0 1 u pi wi fs) ∨ (v = some (.int (nI 0)) ∧ ((∃ pi wi, pi < P ∧ h_pF ws ts jm am rb p0 0 u pi wi fs) ∨ h_pD ws ts jm am rb p0 fs)))
section HH
variable {ws : va_W} {ts : List Nat} {jm am : Nat} {fs : List Value}
theorem h_ta_m (hb : h_ob ws ts jm am fs) : z_tv (q_ad ws) ts (1, 40, 0) (.ref am) := Or.inr (Or.inl ⟨rfl, jm, am, rfl, h_ad hb.1, hb.2.1⟩)
theorem h_en.pf (hb : h_ob ws ts jm am fs) (he : h_en fs) {av : List Value} (hav : av[0]? = some (.ref am)) : ∃ bv, z_Pf ws ts [(0, 7, (0, 2147483648, 2147485248))] av bv ∧ bv[0]? = some (.ref am) := by
  obtain ⟨e0, e1, e2⟩ := he
  exact ⟨_, ⟨am, jm, .inr (9, fs), .int (nI e0), hav, hb.1, e1, h_tvn (by omega) (by omega) (by omega), rfl⟩, z_gm (List.prefix_append _ _) hav⟩
/-- the end's bound behind a contract that tells it -/
theorem h_en_of {A : Nat → Prop} (hD : va_D A ws) (hb : h_ob ws ts jm am fs) {bv : List Value} (hbv : bv[0]? = some (.ref am)) {lo hi k : Nat} (h : ∃ (a j : Nat) (e : va_E) (r : Value), bv[0]? = some (.ref a) ∧ ws[j]? = some (a, e) ∧ z_at e k = some r ∧ z_tv (q_ad ws) ts (0, lo, hi) r) : ∃ x : Int32, fs[k]? = some (.int x) ∧ lo ≤ q_qb x ∧ q_qb x ≤ hi := by
  obtain ⟨a, j, e, r, h1, h2, h3, h4⟩ := h
  rw [hbv] at h1
  cases h1
  obtain ⟨rfl, rfl⟩ := h_same hD hb.1 h2
  obtain ⟨x, rfl, h5, h6⟩ := h_tvi h4
  exact ⟨x, h3, h5, h6⟩
theorem h_en_x {x : Int32} (h : fs[7]? = some (.int x)) (h1 : 2147483648 ≤ q_qb x) (h2 : q_qb x ≤ 2147485248) : h_en fs := by
  obtain ⟨n, -, rfl, e⟩ := z_nat h1
  exact ⟨n, h, by omega⟩
end HH
section HY
variable {l : Launch} {base : Nat} {D : va_G} {sa : Nat → Nat} {J : va_W → List Nat → Prop} {ws : va_W} {ts : List Nat}
theorem h_m_behind (hok : ∀ i, i < q_nM → q_mok i) (hcl : q_clok) {rb : Nat} (hrb : rb < 2) (hJ : ∀ ws' ts', z_Fr (h_ke rb) ws ts ws' ts' → J ws' ts') (hW : z_Con l base D sa z_tt J h_Mword) (hMi : z_Con l base D sa z_tt J h_Mmis) (hGo : z_Con l base D sa z_tt J h_Mgo) (hMu : z_Con l base D sa z_tt J h_Mmust) {jm am p0 u pi wi : Nat} {fs : List Value} (hp0 : p0 = 560 * rb) (h : h_pF ws ts jm am rb p0 0 u pi wi fs) (hen : h_en fs) : z_Met l base D sa z_tt (h_ke rb) (4, 0) 242 [.ref am] ws ts (h_pbu jm am rb p0 u pi) := by
  refine y_meth (J := J) (hok 242 (by decide)) (fun v hv => by rcases List.mem_singleton.mp hv with rfl; rfl) (show 1 ≤ 2 by decide) hJ ?_
  intro p e s9 m below meth c9 X hX hC hQ
  have hi : y_i X = 242 := by rw [hX]
  have htt : y_tt X = z_tt := by rw [hX]
  have hd : y_d X = (4, 0) := by rw [hX]
  have hkw : y_kw X = h_ke rb := by rw [hX]
  have eJ : y_J X = J := by rw [hX]
  have hW2 : z_Con (y_l X) (y_b X) (y_D X) (y_sa X) z_tt (y_J X) h_Mword := by rw [hX]; exact hW
  have hMi2 : z_Con (y_l X) (y_b X) (y_D X) (y_sa X) (y_tt X) (y_J X) h_Mmis := by rw [hX]; exact hMi
  have hGo2 : z_Con (y_l X) (y_b X) (y_D X) (y_sa X) (y_tt X) (y_J X) h_Mgo := by rw [hX]; exact hGo
  have hMu2 : z_Con (y_l X) (y_b X) (y_D X) (y_sa X) (y_tt X) (y_J X) h_Mmust := by rw [hX]; exact hMu
  clear hX
  have E := y_Ei hok hi (by decide) (cd := q_cd242) rfl
  have hn : (0 : Nat) ≤ (y_d X).2 := Nat.zero_le _
  have dp : ∀ k, k ≤ 4 → k ≤ (y_d X).1 := fun k hk => by rw [hd]; exact hk
  show Y X 0 0 [some (.ref am), none] [] ws ts
  refine y_tyJ hC (fun tys hw hD hJ0 hfr0 => ?_)
  rw [htt] at hw
  obtain ⟨tk, at0, sz, ft, hsee⟩ := h_see_of hw h.1
  refine y_aln hC (E 0 _ rfl) rfl ?_
  refine y_vir hok hC (E 1 _ rfl) (by decide) (As := []) (rv := []) (dd := (2, 0)) (kc := []) (by rw [htt]; exact h_m_rank hok hcl (J := y_J X) (fun ws' ts' hf => hC.2.2 ws' ts' (hfr0.trans (hf.wide h_nk))) hW2 h.1 hsee) h.1.1 rfl rfl (dp 3 (by decide)) hn h_cat0 h_nk (fun v ws1 ts1 hf1 hpo => ?_)
  obtain ⟨r, hr6, hr3, rfl, hrop⟩ := hpo
  refine y_tyJ hC (fun tys1 hw1 hD1 hJ1 hfr1 => ?_)
  rw [htt] at hw1
  obtain ⟨fs1, h1, he1⟩ := h.fr hf1 hw1 (fun t q hq => absurd hq (h_nwr t q))
  have efs : fs1 = fs := by
    refine List.ext_getElem? (fun k => he1 k (h_nwr _ _))
  subst efs
  have hsee1 := hsee.fr0 hf1 hw1
  clear h hsee hw hD hJ0 hfr0 he1 hf1
  show Y X 0 4 [some (.ref am), none] [.int (nI r)] ws1 ts1
  refine y_isn hC (E 2 _ rfl) ?_
  refine y_iln hC (E 3 _ rfl) rfl ?_
  refine y_ic hC (E 4 _ rfl) ?_
  -- from the pops on
  have rest : Y X 0 23 [some (.ref am), some (.int (nI r))] [] ws1 ts1 := by
    refine h_bu_pop (P := pi) hok hcl hC htt hi (dp 1 (by decide)) hkw hrb hp0 hr6 (fun ws2 ts2 fs2 s eW eS fk fn fu cd ur pj wj hb f35 f36 f37 f38 f39 f39b r1 r2 r3 r4 r5 r6 hp hto hse hee hP => ?_) pi ws1 ts1 fs1 wi (Nat.le_refl _) h1 hsee1 hen
    have hbn := hp.bnd
    refine y_iln hC (E 59 _ rfl) rfl ?_
    refine y_if hC (E 60 _ rfl) (fun hle => ?_) (fun hgt => ?_)
    · -- rank 0: a bracket or the whole ends
      have hr0 : r = 0 := by
        have := (nI_leI (a := r) (b := 0) (by omega) (by decide)).mp (by rw [nI_0]; exact hle)
        omega
      obtain ⟨pk, rfl⟩ : ∃ pk, pj = pk + 1 := ⟨pj - 1, by omega⟩
      have h7 : 7 ≤ s pk := by
        rw [show pk + 1 - 1 = pk by omega] at hto
        omega
      have hcl9 := hp.close h7
      obtain ⟨je, ae, cE, g, q1, q2⟩ := id r1
      have hs8 : s pk ≤ 8 := by
        rcases Nat.eq_zero_or_pos pk with e | e
        · rw [e, hp.2.1.1]; decide
        · have := hp.2.1.2.2.1 pk e (by omega); omega
      refine y_aln hC (E 82 _ rfl) rfl ?_
      refine y_dup hC (E 83 _ rfl) rfl ?_
      refine y_get hcl hC (E 84 _ rfl) hb.1 f38 ?_
      refine y_ic hC (E 85 _ rfl) ?_
      refine y_sub hC (E 86 _ rfl) ?_
      rw [show nI (pk + 1) - nI 1 = nI pk from nI_pred pk]
      refine y_put hcl hC (E 87 _ rfl) hb.1 hb.2.1 (by rw [htt]; rfl) ?_ (by rw [hb.2.2]; decide) (by rw [hkw]; exact h_kef (by omega)) (Or.inl ⟨rfl, _, rfl⟩) ?_
      · rw [htt]
        show z_tv _ ts2 (0, 2147483648, 2147483738) _
        exact h_tvn (by omega) (by omega) (by omega)
      obtain ⟨hbA, mvA⟩ := h_upd0 (q := 38) hb (.int (nI pk))
      have fA : ∀ k, ¬ 38 = k → (fs2.set 38 (.int (nI pk)))[k]? = fs2[k]? := fun k hk => List.getElem?_set_ne hk
      have fA38 : (fs2.set 38 (.int (nI pk)))[38]? = some (.int (nI pk)) := List.getElem?_set_self (by rw [hb.2.2]; decide)
      have q1A := (q1.set (e := (am, .inr (9, fs2.set 38 (.int (nI pk))))) hb.2.1 (by decide)).fld (q := 38) (v := .int (nI pk)) (by decide)
      have enA : h_en (fs2.set 38 (.int (nI pk))) := by
        obtain ⟨e0, e1, e2⟩ := hee
        exact ⟨e0, by rw [fA 7 (by decide)]; exact e1, e2⟩
      refine y_aln hC (E 88 _ rfl) rfl ?_
      refine y_get hcl hC (E 89 _ rfl) hbA.1 q1A.1 ?_
      refine y_aln hC (E 90 _ rfl) rfl ?_
      refine y_get hcl hC (E 91 _ rfl) hbA.1 fA38 ?_
      refine y_ald hC (E 92 _ rfl) q1A.2.1 q1A.2.2 (by rw [htt]; rfl) (show pk < 90 by omega) (by decide) ?_
      rw [q2 pk (by omega), hp.2.1.2.1 pk (by omega)]
      refine y_bp hC (E 93 _ rfl) ?_
      refine y_cmp hC (E 94 _ rfl) (fun hx => ?_) (fun hx => ?_)
      · have hx : ¬ s pk = 7 := fun e => by
          have hx : ¬ nI (s pk) = nI 7 := hx
          rw [e] at hx
          exact hx rfl
        rcases hcl9 with ⟨rfl, -, x, hx9⟩ | ⟨-, e7, -⟩
        · refine y_ic hC (E 106 _ rfl) ?_
          refine y_zr hC hQ (E 107 _ rfl) hn (by decide) ⟨_, hbA, enA, Or.inr (Or.inr ⟨rfl, Or.inr ⟨hbA, fk, cd, x, by rw [fA 35 (by decide)]; exact f35, by rw [fA 36 (by decide)]; exact f36, fA38, mvA _ _ _ _ r3 (by decide) (by decide), hp.2.2.2.2.1, ?_, hx9⟩⟩)⟩
          have a1 := hp.2.2.2.2.2.2.2.2.1 rfl
          have a2 := hp.2.2.2.2.2.2.1
          have a3 := hp.2.2.2.2.1
          omega
        · exact absurd e7 hx
      · have hx : s pk = 7 := (nI_eq (by omega) (by decide)).mp hx
        rcases hcl9 with ⟨-, e7, -⟩ | ⟨hpk, -, hw1, hp9⟩
        · exact absurd hx e7
        have hw7 := hp.2.2.2.1
        obtain ⟨wk, rfl⟩ : ∃ wk, wj = wk + 1 := ⟨wj - 1, by omega⟩
        rw [show wk + 1 - 1 = wk by omega] at hp9
        refine y_aln hC (E 95 _ rfl) rfl ?_
        refine y_dup hC (E 96 _ rfl) rfl ?_
        refine y_get hcl hC (E 97 _ rfl) hbA.1 (by rw [fA 37 (by decide)]; exact f37) ?_
        refine y_ic hC (E 98 _ rfl) ?_
        refine y_sub hC (E 99 _ rfl) ?_
        rw [show nI (wk + 1) - nI 1 = nI wk from nI_pred wk]
        refine y_put hcl hC (E 100 _ rfl) hbA.1 hbA.2.1 (by rw [htt]; rfl) ?_ (by rw [hbA.2.2]; decide) (by rw [hkw]; exact h_kef (by omega)) (Or.inl ⟨rfl, _, rfl⟩) ?_
        · rw [htt]
          show z_tv _ ts2 (0, 2147483648, 2147483655) _
          exact h_tvn (by omega) (by omega) (by omega)
        obtain ⟨hbB, mvB⟩ := h_upd0 (q := 37) hbA (.int (nI wk))
        have fB : ∀ k, ¬ 37 = k → ((fs2.set 38 (.int (nI pk))).set 37 (.int (nI wk)))[k]? = (fs2.set 38 (.int (nI pk)))[k]? := fun k hk => List.getElem?_set_ne hk
        have enB : h_en ((fs2.set 38 (.int (nI pk))).set 37 (.int (nI wk))) := by
          obtain ⟨e0, e1, e2⟩ := enA
          exact ⟨e0, by rw [fB 7 (by decide)]; exact e1, e2⟩
        have seeB : h_see ((ws2.set jm (am, .inr (9, fs2.set 38 (.int (nI pk))))).set jm (am, .inr (9, (fs2.set 38 (.int (nI pk))).set 37 (.int (nI wk))))) ts2 ((fs2.set 38 (.int (nI pk))).set 37 (.int (nI wk))) tk at0 sz ft := ⟨by rw [fB 3 (by decide), fA 3 (by decide)]; exact hse.1, hse.2.1, by rw [fB 6 (by decide), fA 6 (by decide)]; exact hse.2.2.1, hse.2.2.2.1, by rw [fB 8 (by decide), fA 8 (by decide)]; exact hse.2.2.2.2.1, mvB _ _ _ _ (mvA _ _ _ _ hse.2.2.2.2.2 (by decide) (by decide)) (by decide) (by decide)⟩
        have hF : h_pF ((ws2.set jm (am, .inr (9, fs2.set 38 (.int (nI pk))))).set jm (am, .inr (9, (fs2.set 38 (.int (nI pk))).set 37 (.int (nI wk))))) ts2 jm am rb p0 0 u pk wk ((fs2.set 38 (.int (nI pk))).set 37 (.int (nI wk))) := ⟨hbB, s, eW, eS, fk, fn, fu, cd, ur, by rw [fB 35 (by decide), fA 35 (by decide)]; exact f35, by rw [fB 36 (by decide), fA 36 (by decide)]; exact f36, List.getElem?_set_self (by rw [hbA.2.2]; decide), by rw [fB 38 (by decide)]; exact fA38, ⟨by rw [fB 39 (by decide), fA 39 (by decide)]; exact f39, f39b⟩, ⟨mvB _ _ _ _ (mvA _ _ _ _ r1 (by decide) (by decide)) (by decide) (by decide), mvB _ _ _ _ (mvA _ _ _ _ r2 (by decide) (by decide)) (by decide) (by decide)⟩, ⟨mvB _ _ _ _ (mvA _ _ _ _ r3 (by decide) (by decide)) (by decide) (by decide), mvB _ _ _ _ (mvA _ _ _ _ r4 (by decide) (by decide)) (by decide) (by decide)⟩, ⟨mvB _ _ _ _ (mvA _ _ _ _ r5 (by decide) (by decide)) (by decide) (by decide), r6⟩, hp9⟩
        generalize (fs2.set 38 (.int (nI pk))).set 37 (.int (nI wk)) = fs4 at hbB enB seeB hF
        generalize (ws2.set jm (am, .inr (9, fs2.set 38 (.int (nI pk))))).set jm (am, .inr (9, fs4)) = ws4 at hbB seeB hF
        refine y_aln hC (E 101 _ rfl) rfl ?_
        refine y_aln hC (E 102 _ rfl) rfl ?_
        refine y_bp hC (E 103 _ rfl) ?_
        refine y_virq hok hC (E 104 _ rfl) (by decide) (As := [.int (nI 41)]) (rv := [.ref am]) (by rw [htt]; exact h_m_signhere hok hcl hbB seeB (nI 41)) hbB.1 rfl rfl (dp 2 (by decide)) hn (by show 1 + 0 ≤ 8; decide) ?_
        refine y_tyJ hC (fun tys4 hw4 hD4 hJ4 _ => ?_)
        have hsl := h_sh_lt tk at0 sz ft (nI 41)
        generalize h_sh tk at0 sz ft (nI 41) = b9 at hsl
        obtain ⟨bv, hbv, hbv0⟩ := enB.pf hbB (av := [.ref am, .int (nI b9)]) rfl
        refine y_vir hok hC (E 105 _ rfl) (by decide) (As := [.int (nI b9)]) (rv := []) (dd := (2, 0)) (kc := [(40, 2147483652, 2147483658)]) (hMu2 ws4 ts2 [.ref am, .int (nI b9)] bv ⟨h_ta_m hbB, h_tvn (by omega) (by omega) (by omega), trivial⟩ hbv hJ4) hbB.1 rfl rfl (dp 3 (by decide)) hn h_cat0 (by rw [hkw]; exact (h_kf1 (by decide) (by decide)).sub) (fun v ws5 ts5 hf5 hpo => ?_)
        have hv9 := hpo.1
        rw [if_neg (show ¬ h_Mmust.2.2.2.2.2.2.1 = true by decide)] at hv9
        subst hv9
        refine y_ty (fun tys5 hw5 hD5 => ?_)
        rw [htt] at hw5
        obtain ⟨fs5, hF5, -⟩ := hF.fr hf5 hw5 (h_kf1 (by decide) (by decide))
        obtain ⟨x7, x71, x72, x73⟩ := h_en_of hD5 hF5.1 hbv0 (hpo.2 _ (List.mem_singleton.mpr rfl))
        show Y X 0 191 [some (.ref am), some (.int (nI r))] [] ws5 ts5
        refine y_ic hC (E 106 _ rfl) ?_
        exact y_zr hC hQ (E 107 _ rfl) hn (by decide) ⟨fs5, hF5.1, h_en_x x71 x72 x73, Or.inr (Or.inr ⟨rfl, Or.inl ⟨pk, wk, by omega, hF5⟩⟩)⟩
    · -- an operator
      have hr1 : 1 ≤ r := by
        have hgt : 0 < nI r := hgt
        rcases Nat.eq_zero_or_pos r with e | e
        · subst e
          rw [nI_0] at hgt
          exact absurd hgt (by decide)
        · exact e
      obtain ⟨je, ae, cE, g, q1, q2⟩ := id r1
      obtain ⟨js, as9, cS, g9, q3, q4⟩ := id r2
      have push : ∀ c : Int32, h_isop c → Y X 0 138 [some (.ref am), some (.int (nI r))] [.int c, .int (nI r), .ref am] ws2 ts2 := by
        intro c hc
        refine y_vir hok hC (E 77 _ rfl) (by decide) (As := [.int (nI r), .int c]) (rv := []) (dd := (0, 0)) (by rw [htt]; exact h_m_push hok hcl hb f38 (by omega) q1 q3 (w9 := r) (by omega) c) hb.1 rfl rfl (dp 1 (by decide)) hn h_cat0 ?_ (fun v ws3 ts3 _ hpo => ?_)
        · rw [hkw]
          intro t q hq
          obtain ⟨e, e1, e2, e3, e4⟩ := z_kw_iff.mp hq
          rcases List.mem_cons.mp e1 with rfl | e1
          · subst e2
            exact h_wrm (t := 63) (lo := 2147483648) (hi := 2147483737) (by simp [h_ke]) e3 e4
          rcases List.mem_cons.mp e1 with rfl | e1
          · subst e2
            exact h_wrm (t := 64) (lo := 2147483648) (hi := 2147483737) (by simp [h_ke]) e3 e4
          · rcases List.mem_singleton.mp e1 with rfl
            subst e2
            have e3 : 2147483686 ≤ 2147483648 + q := e3
            have e4 : 2147483648 + q ≤ 2147483686 := e4
            exact h_kef (by omega)
        obtain ⟨rfl, rfl, rfl⟩ := hpo
        obtain ⟨hb3, v1, v2, mv⟩ := h_upd2 (q := 38) hb q1 q3 (by decide) (by decide) (by decide) (by decide) (by decide) (upd g pj (nI r)) (upd g9 pj c) (.int (nI (pj + 1)))
        have f3 : ∀ k, ¬ 38 = k → (fs2.set 38 (.int (nI (pj + 1))))[k]? = fs2[k]? := fun k hk => List.getElem?_set_ne hk
        have v1' := v1.ext (g := upd eW pj (nI r)) (fun q hq => by
          by_cases eq : q = pj
          · subst eq
            rw [pk_us, pk_us]
          · rw [pk_un eq, pk_un eq]
            exact q2 q hq)
        have v2' := v2.ext (g := upd eS pj c) (fun q hq => by
          by_cases eq : q = pj
          · subst eq
            rw [pk_us, pk_us]
          · rw [pk_un eq, pk_un eq]
            exact q4 q hq)
        have hF : h_pF _ ts3 jm am rb p0 1 u (pj + 1) wj (fs2.set 38 (.int (nI (pj + 1)))) := ⟨hb3, h_sup s pj r, _, _, fk, fn, fu, cd, ur, by rw [f3 35 (by decide)]; exact f35, by rw [f3 36 (by decide)]; exact f36, by rw [f3 37 (by decide)]; exact f37, List.getElem?_set_self (by rw [hb.2.2]; decide), ⟨by rw [f3 39 (by decide)]; exact f39, f39b⟩, ⟨v1', v2'⟩, ⟨mv _ _ _ _ r3 (by decide) (by decide) (by decide) (by decide), mv _ _ _ _ r4 (by decide) (by decide) (by decide) (by decide)⟩, ⟨mv _ _ _ _ r5 (by decide) (by decide) (by decide) (by decide), r6⟩, hp.op hr1 hr6 hr3 hc hto⟩
        have en3 : h_en (fs2.set 38 (.int (nI (pj + 1)))) := by
          obtain ⟨e0, e1, e2⟩ := hee
          exact ⟨e0, by rw [f3 7 (by decide)]; exact e1, e2⟩
        generalize fs2.set 38 (.int (nI (pj + 1))) = fs4 at hb3 hF en3
        show Y X 0 141 [some (.ref am), some (.int (nI r))] [] _ ts3
        refine y_tyJ hC (fun tys4 hw4 hD4 hJ4 _ => ?_)
        refine y_aln hC (E 78 _ rfl) rfl ?_
        obtain ⟨bv, hbv, hbv0⟩ := en3.pf hF.1 (av := [.ref am]) rfl
        refine y_vir hok hC (E 79 _ rfl) (by decide) (As := []) (rv := []) (dd := (1, 0)) (kc := [(40, 2147483654, 2147483658)]) (hGo2 _ ts3 [.ref am] bv ⟨h_ta_m hF.1, trivial⟩ hbv hJ4) hF.1.1 rfl rfl (dp 2 (by decide)) hn h_cat0 (by rw [hkw]; exact (h_kf1 (by decide) (by decide)).sub) (fun v ws5 ts5 hf5 hpo => ?_)
        have hv9 := hpo.1
        rw [if_neg (show ¬ h_Mgo.2.2.2.2.2.2.1 = true by decide)] at hv9
        subst hv9
        refine y_ty (fun tys5 hw5 hD5 => ?_)
        rw [htt] at hw5
        obtain ⟨fs5, hF5, -⟩ := hF.fr hf5 hw5 (h_kf1 (by decide) (by decide))
        obtain ⟨x7, x71, x72, x73⟩ := h_en_of hD5 hF5.1 hbv0 (hpo.2 _ (List.mem_singleton.mpr rfl))
        show Y X 0 145 [some (.ref am), some (.int (nI r))] [] ws5 ts5
        refine y_ic hC (E 80 _ rfl) ?_
        exact y_zr hC hQ (E 81 _ rfl) hn (by decide) ⟨fs5, hF5.1, h_en_x x71 x72 x73, Or.inr (Or.inl ⟨rfl, pj + 1, wj, hF5⟩)⟩
      refine y_aln hC (E 61 _ rfl) rfl ?_
      refine y_iln hC (E 62 _ rfl) rfl ?_
      refine y_iln hC (E 63 _ rfl) rfl ?_
      refine y_ic hC (E 64 _ rfl) ?_
      refine y_cmp hC (E 65 _ rfl) (fun h2 => ?_) (fun _ => ?_)
      · refine y_iln hC (E 68 _ rfl) rfl ?_
        refine y_ic hC (E 69 _ rfl) ?_
        refine y_cmp hC (E 70 _ rfl) (fun h1 => ?_) (fun _ => ?_)
        · have hr4 : 4 ≤ r := by
            have a1 : ¬ r = 2 := fun e => by
              have h2 : ¬ nI r = nI 2 := h2
              rw [e] at h2
              exact h2 rfl
            have a2 : ¬ r = 1 := fun e => by
              have h1 : ¬ nI r = nI 1 := h1
              rw [e] at h1
              exact h1 rfl
            omega
          refine y_aln hC (E 73 _ rfl) rfl ?_
          refine y_aln hC (E 74 _ rfl) rfl ?_
          refine y_get hcl hC (E 75 _ rfl) hb.1 hse.2.2.1 ?_
          refine y_virp hok hC (E 76 _ rfl) (by decide) (As := [.int (nI at0)]) (rv := [.int (nI r), .ref am]) (by rw [htt]; exact h_m_sign hok hcl hb hse.1 hse.2.1 hse.2.2.2.1 hse.2.2.2.2.2) hb.1 rfl rfl (dp 1 (by decide)) hn (by show 1 + (1 + 0) ≤ 8; decide) ?_
          exact push _ (hrop hr4)
        · refine y_bp hC (E 71 _ rfl) ?_
          refine y_go hC (E 72 _ rfl) ?_
          exact push _ ⟨by decide, by decide⟩
      · refine y_bp hC (E 66 _ rfl) ?_
        refine y_go hC (E 67 _ rfl) ?_
        exact push _ ⟨by decide, by decide⟩
  refine y_cmp hC (E 5 _ rfl) (fun _ => rest) (fun _ => ?_)
  obtain ⟨hb, s, eW, eS, fk, fn, fu, cd, ur, f35, f36, f37, f38, ⟨f39, f39b⟩, ⟨r1, r2⟩, ⟨r3, r4⟩, ⟨r5, r6⟩, hp⟩ := id h1
  have hbn := hp.bnd
  refine y_aln hC (E 6 _ rfl) rfl ?_
  refine y_vir hok hC (E 7 _ rfl) (by decide) (As := []) (rv := []) (dd := (0, 0)) (kc := []) (by rw [htt]; exact h_m_cmpd hok hcl hb f38 hp.1 (by omega) r1 hp.2.1) hb.1 rfl rfl (dp 1 (by decide)) hn h_cat0 h_nk (fun v ws2 ts2 _ hpo => ?_)
  obtain ⟨rfl, rfl, b9, hb9, rfl⟩ := hpo
  refine y_if hC (E 8 _ rfl) (fun _ => rest) (fun _ => ?_)
  refine y_aln hC (E 9 _ rfl) rfl ?_
  refine y_vir hok hC (E 10 _ rfl) (by decide) (As := []) (rv := []) (dd := (1, 0)) (kc := [(40, 2147483652, 2147483653)]) (hMi2 _ _ [.ref am] [.ref am] ⟨h_ta_m hb, trivial⟩ rfl hJ1) hb.1 rfl rfl (dp 2 (by decide)) hn h_cat0 (by rw [hkw]; exact (h_kf1 (by decide) (by decide)).sub) (fun v ws5 ts5 hf5 hpo => ?_)
  have hv9 := hpo.1
  rw [if_neg (show ¬ h_Mmis.2.2.2.2.2.2.1 = true by decide)] at hv9
  subst hv9
  refine y_ty (fun tys5 hw5 hD5 => ?_)
  rw [htt] at hw5
  obtain ⟨fs5, hF5, he5⟩ := h1.fr hf5 hw5 (h_kf1 (by decide) (by decide))
  obtain ⟨x4, x41, x42, x43⟩ := h_en_of hD5 hF5.1 (bv := [.ref am]) rfl (hpo.2 _ (List.mem_singleton.mpr rfl))
  have x42 : 2147483649 ≤ q_qb x4 := x42
  have en5 : h_en fs5 := by
    obtain ⟨e0, e1, e2⟩ := hen
    refine ⟨e0, ?_, e2⟩
    rw [he5 7 (fun q => ?_)]
    · exact e1
    · obtain ⟨e, a1, a2, a3, a4⟩ := z_kw_iff.mp q
      rcases List.mem_singleton.mp a1 with rfl
      have a4 : 2147483648 + 7 ≤ 2147483653 := a4
      omega
  show Y X 0 21 [some (.ref am), some (.int (nI r))] [] ws5 ts5
  refine y_ic hC (E 11 _ rfl) ?_
  exact y_zr hC hQ (E 12 _ rfl) hn (by decide) ⟨fs5, hF5.1, en5, Or.inl ⟨⟨x4, x41, fun e => by rw [e, z_qb0] at x42; omega⟩, 1, by decide, rfl⟩⟩
end HY
