/-! ===== by hand: e ===== -/
def h_me (w u pi wi : Nat) : Nat := if w = 1 then 200 * (60 - u) + (7 - wi) else 200 * (60 - u) + 100 + pi
/-- behind e -/
def h_pex (jm am rb p0 : Nat) : Option Value → va_W → List Nat → Prop := fun v ws ts => v = none ∧ ∃ fs, h_ob ws ts jm am fs ∧ h_en fs ∧ (h_bad fs ∨ h_pD ws ts jm am rb p0 fs)
section HY
variable {l : Launch} {base : Nat} {D : va_G} {sa : Nat → Nat} {J : va_W → List Nat → Prop} {ws : va_W} {ts : List Nat}
theorem h_m_e (hok : ∀ i, i < q_nM → q_mok i) (hcl : q_clok) {rb : Nat} (hrb : rb < 2) (hJ : ∀ ws' ts', z_Fr (h_ke rb) ws ts ws' ts' → J ws' ts') (hW : z_Con l base D sa z_tt J h_Mword) (hWh : z_Con l base D sa z_tt J h_Mwh) (hMi : z_Con l base D sa z_tt J h_Mmis) (hGo : z_Con l base D sa z_tt J h_Mgo) (hMu : z_Con l base D sa z_tt J h_Mmust) {jm am p0 : Nat} {fs : List Value} (hp0 : p0 = 560 * rb) (hb : h_ob ws ts jm am fs) (f35 : fs[35]? = some (.int (nI rb))) (f36 : fs[36]? = some (.int (nI p0))) (hen : h_en fs) : z_Met l base D sa z_tt (h_ke rb) (6, 0) 245 [.ref am] ws ts (h_pex jm am rb p0) := by
  refine y_meth (J := J) (hok 245 (by decide)) (fun v hv => by rcases List.mem_singleton.mp hv with rfl; rfl) (show 1 ≤ 2 by decide) hJ ?_
  intro p e s9 m below meth c9 X hX hC hQ
  have hi : y_i X = 245 := by rw [hX]
  have htt : y_tt X = z_tt := by rw [hX]
  have hd : y_d X = (6, 0) := by rw [hX]
  have hkw : y_kw X = h_ke rb := by rw [hX]
  have hW2 : z_Con (y_l X) (y_b X) (y_D X) (y_sa X) z_tt (y_J X) h_Mword := by rw [hX]; exact hW
  have hWh2 : z_Con (y_l X) (y_b X) (y_D X) (y_sa X) z_tt (y_J X) h_Mwh := by rw [hX]; exact hWh
  have hMi2 : z_Con (y_l X) (y_b X) (y_D X) (y_sa X) z_tt (y_J X) h_Mmis := by rw [hX]; exact hMi
  have hGo2 : z_Con (y_l X) (y_b X) (y_D X) (y_sa X) z_tt (y_J X) h_Mgo := by rw [hX]; exact hGo
  have hMu2 : z_Con (y_l X) (y_b X) (y_D X) (y_sa X) z_tt (y_J X) h_Mmust := by rw [hX]; exact hMu
  clear hX
  have E := y_Ei hok hi (by decide) (cd := q_cd245) rfl
  have hn : (0 : Nat) ≤ (y_d X).2 := Nat.zero_le _
  have dp : ∀ k, k ≤ 6 → k ≤ (y_d X).1 := fun k hk => by rw [hd]; exact hk
  -- it ends
  have out : ∀ (ws : va_W) (ts : List Nat) (fs : List Value) (w : Nat), h_ob ws ts jm am fs → h_en fs → (h_bad fs ∨ h_pD ws ts jm am rb p0 fs) → Y X 0 52 [some (.ref am), some (.int (nI w))] [] ws ts := fun ws ts fs w h1 h2 h3 => y_vr hC hQ (E 27 _ rfl) hn ⟨rfl, fs, h1, h2, h3⟩
  have badL : ∀ (ws : va_W) (ts : List Nat) (fs : List Value) (w : Nat), h_ob ws ts jm am fs → h_en fs → h_bad fs → Y X 0 19 [some (.ref am), some (.int (nI w))] [] ws ts := by
    intro ws ts fs w h1 h2 h3
    obtain ⟨x4, x41, x42⟩ := id h3
    refine y_aln hC (E 12 _ rfl) rfl ?_
    refine y_virp hok hC (E 13 _ rfl) (by decide) (As := []) (rv := []) (by rw [htt]; exact h_m_good hok hcl h1 x41) h1.1 rfl rfl (dp 1 (by decide)) hn h_cat0 ?_
    refine y_if hC (E 14 _ rfl) (fun _ => out ws ts fs w h1 h2 (Or.inl h3)) (fun hg => ?_)
    have hg : ¬ nI (h_good x4) = 0 := hg
    rw [h_good, if_neg x42] at hg
    exact absurd nI_0 hg
  have doneL : ∀ (ws : va_W) (ts : List Nat) (fs : List Value) (w : Nat), h_ob ws ts jm am fs → h_en fs → h_pD ws ts jm am rb p0 fs → Y X 0 19 [some (.ref am), some (.int (nI w))] [] ws ts := by
    intro ws ts fs w h1 h2 h3
    refine y_ty (fun tys hw hD => ?_)
    rw [htt] at hw
    obtain ⟨o2, o3⟩ := h_objt hw h1.1 h1.2.1
    obtain ⟨x4, x41, -⟩ := h_fi o2 o3 (k := 4) (lo := 2147483648) (hi := 2147483652) (by decide) rfl
    refine y_aln hC (E 12 _ rfl) rfl ?_
    refine y_virp hok hC (E 13 _ rfl) (by decide) (As := []) (rv := []) (by rw [htt]; exact h_m_good hok hcl h1 x41) h1.1 rfl rfl (dp 1 (by decide)) hn h_cat0 ?_
    refine y_if hC (E 14 _ rfl) (fun _ => out ws ts fs w h1 h2 (Or.inr h3)) (fun _ => ?_)
    obtain ⟨-, fk, cd, x, _, _, d38, _⟩ := id h3
    refine y_aln hC (E 15 _ rfl) rfl ?_
    refine y_get hcl hC (E 16 _ rfl) h1.1 d38 ?_
    refine y_if hC (E 17 _ rfl) (fun _ => out ws ts fs w h1 h2 (Or.inr h3)) (fun hg => ?_)
    have hg : (0 : Int32) < nI 0 := hg
    exact absurd hg (by decide)
  have loop : ∀ (M w : Nat) (ws : va_W) (ts : List Nat) (fs : List Value) (u pi wi : Nat), h_me w u pi wi ≤ M → h_pF ws ts jm am rb p0 w u pi wi fs → h_en fs → Y X 0 19 [some (.ref am), some (.int (nI w))] [] ws ts := by
    intro M
    induction M with
    | zero =>
      intro w ws ts fs u pi wi hM hF hee
      obtain ⟨-, s, eW, eS, fk, fn, fu, cd, ur, _, _, _, _, _, _, _, _, hp⟩ := id hF
      have hw2 := hp.2.2.2.2.2.2.2.2.2
      have hu := hp.2.2.2.2.2.2.1
      have hbn := hp.bnd
      have hw7 := hp.2.2.2.1
      have h12 := hp.2.2.2.2.2.2.2.1
      unfold h_me at hM
      rcases Nat.eq_zero_or_pos w with e | e
      · rw [if_neg (by omega)] at hM
        omega
      · have e1 : w = 1 := by omega
        rw [if_pos e1] at hM
        have e60 : u = 60 := by omega
        have e7 : wi = 7 := by omega
        -- full: only a fault is left
        subst e1
        refine y_tyJ hC (fun tys hw hD hJ0 hfr0 => ?_)
        rw [htt] at hw
        obtain ⟨o2, o3⟩ := h_objt hw hF.1.1 hF.1.2.1
        obtain ⟨x4, x41, -⟩ := h_fi o2 o3 (k := 4) (lo := 2147483648) (hi := 2147483652) (by decide) rfl
        obtain ⟨-, _, _, _, _, _, _, _, _, _, _, _, f38, _⟩ := id hF
        refine y_aln hC (E 12 _ rfl) rfl ?_
        refine y_virp hok hC (E 13 _ rfl) (by decide) (As := []) (rv := []) (by rw [htt]; exact h_m_good hok hcl hF.1 x41) hF.1.1 rfl rfl (dp 1 (by decide)) hn h_cat0 ?_
        refine y_if hC (E 14 _ rfl) (fun hg => ?_) (fun _ => ?_)
        · refine out ws ts fs 1 hF.1 hee (Or.inl ⟨x4, x41, fun e => ?_⟩)
          have hg : nI (h_good x4) = 0 := hg
          rw [h_good, if_pos e] at hg
          exact absurd hg (by decide)
        refine y_aln hC (E 15 _ rfl) rfl ?_
        refine y_get hcl hC (E 16 _ rfl) hF.1.1 f38 ?_
        refine y_if hC (E 17 _ rfl) (fun hg => ?_) (fun _ => ?_)
        · have hg : nI pi ≤ 0 := hg
          exact absurd hg (nI_nle (by omega) (by omega))
        refine y_iln hC (E 18 _ rfl) rfl ?_
        refine y_if hC (E 19 _ rfl) (fun hg => absurd (show nI 1 = 0 from hg) (by decide)) (fun _ => ?_)
        refine y_aln hC (E 20 _ rfl) rfl ?_
        refine y_vir hok hC (E 21 _ rfl) (by decide) (As := []) (rv := []) (dd := (4, 0)) (kc := h_ke rb) (by rw [htt]; exact h_m_unit hok hcl hrb (J := y_J X) (fun ws' ts' hf => hC.2.2 ws' ts' (hfr0.trans (by rw [hkw]; exact hf))) hW2 hWh2 hMi2 hGo2 hp0 hF hee) hF.1.1 rfl rfl (dp 5 (by decide)) hn h_cat0 (by rw [hkw]; exact fun _ _ h => h) (fun v ws1 ts1 _ hpo => ?_)
        obtain ⟨fs1, hb1, he1, hcase⟩ := hpo
        rcases hcase with ⟨hbad, b9, hb9, rfl⟩ | ⟨rfl, pi', u', wi', hF1, hlt⟩ | ⟨rfl, u', pi', wi', hF1, hlt⟩
        · show Y X 0 41 [some (.ref am), some (.int (nI 1))] [.int (nI b9)] ws1 ts1
          refine y_go hC (E 22 _ rfl) ?_
          refine y_isn hC (E 25 _ rfl) ?_
          refine y_go hC (E 26 _ rfl) ?_
          exact badL ws1 ts1 fs1 b9 hb1 he1 hbad
        · obtain ⟨-, _, _, _, _, _, _, _, _, _, _, _, _, _, _, _, _, hp1⟩ := hF1
          have := hp1.2.2.2.2.2.2.1
          have := hp1.2.2.2.1
          omega
        · obtain ⟨-, _, _, _, _, _, _, _, _, _, _, _, _, _, _, _, _, hp1⟩ := hF1
          have := hp1.2.2.2.2.2.2.1
          omega
    | succ M IH =>
      intro w ws ts fs u pi wi hM hF hee
      refine y_tyJ hC (fun tys hw hD hJ0 hfr0 => ?_)
      rw [htt] at hw
      obtain ⟨o2, o3⟩ := h_objt hw hF.1.1 hF.1.2.1
      obtain ⟨x4, x41, -⟩ := h_fi o2 o3 (k := 4) (lo := 2147483648) (hi := 2147483652) (by decide) rfl
      obtain ⟨-, s, eW, eS, fk, fn, fu, cd, ur, f35, f36, f37, f38, _, _, _, _, hp⟩ := id hF
      have hw2 := hp.2.2.2.2.2.2.2.2.2
      have hu := hp.2.2.2.2.2.2.1
      have hbn := hp.bnd
      have hw7 := hp.2.2.2.1
      refine y_aln hC (E 12 _ rfl) rfl ?_
      refine y_virp hok hC (E 13 _ rfl) (by decide) (As := []) (rv := []) (by rw [htt]; exact h_m_good hok hcl hF.1 x41) hF.1.1 rfl rfl (dp 1 (by decide)) hn h_cat0 ?_
      refine y_if hC (E 14 _ rfl) (fun hg => ?_) (fun _ => ?_)
      · refine out ws ts fs w hF.1 hee (Or.inl ⟨x4, x41, fun e => ?_⟩)
        have hg : nI (h_good x4) = 0 := hg
        rw [h_good, if_pos e] at hg
        exact absurd hg (by decide)
      refine y_aln hC (E 15 _ rfl) rfl ?_
      refine y_get hcl hC (E 16 _ rfl) hF.1.1 f38 ?_
      refine y_if hC (E 17 _ rfl) (fun hg => ?_) (fun _ => ?_)
      · have hg : nI pi ≤ 0 := hg
        exact absurd hg (nI_nle (by omega) (by omega))
      have hJ9 : ∀ ws' ts', z_Fr (h_ke rb) ws ts ws' ts' → y_J X ws' ts' := fun ws' ts' hf => hC.2.2 ws' ts' (hfr0.trans (by rw [hkw]; exact hf))
      refine y_iln hC (E 18 _ rfl) rfl ?_
      refine y_if hC (E 19 _ rfl) (fun hg => ?_) (fun hg => ?_)
      · have ew : w = 0 := by
          rcases h_nI01 hw2 with ⟨_, q⟩ | ⟨q, _⟩
          · exact q
          · exact absurd hg q
        subst ew
        refine y_aln hC (E 23 _ rfl) rfl ?_
        refine y_vir hok hC (E 24 _ rfl) (by decide) (As := []) (rv := []) (dd := (4, 0)) (kc := h_ke rb) (by rw [htt]; exact h_m_behind hok hcl hrb (J := y_J X) hJ9 hW2 hMi2 hGo2 hMu2 hp0 hF hee) hF.1.1 rfl rfl (dp 5 (by decide)) hn h_cat0 (by rw [hkw]; exact fun _ _ h => h) (fun v ws1 ts1 _ hpo => ?_)
        unfold h_me at hM
        rw [if_neg (by decide)] at hM
        obtain ⟨fs1, hb1, he1, hcase⟩ := hpo
        rcases hcase with ⟨hbad, b9, hb9, rfl⟩ | ⟨rfl, pi', wi', hF1⟩ | ⟨rfl, ⟨pi', wi', hlt, hF1⟩ | hD1⟩
        · show Y X 0 48 [some (.ref am), some (.int (nI 0))] [.int (nI b9)] ws1 ts1
          refine y_isn hC (E 25 _ rfl) ?_
          refine y_go hC (E 26 _ rfl) ?_
          exact badL ws1 ts1 fs1 b9 hb1 he1 hbad
        · show Y X 0 48 [some (.ref am), some (.int (nI 0))] [.int (nI 1)] ws1 ts1
          refine y_isn hC (E 25 _ rfl) ?_
          refine y_go hC (E 26 _ rfl) ?_
          refine IH 1 ws1 ts1 fs1 u pi' wi' ?_ hF1 he1
          unfold h_me
          rw [if_pos rfl]
          omega
        · show Y X 0 48 [some (.ref am), some (.int (nI 0))] [.int (nI 0)] ws1 ts1
          refine y_isn hC (E 25 _ rfl) ?_
          refine y_go hC (E 26 _ rfl) ?_
          refine IH 0 ws1 ts1 fs1 u pi' wi' ?_ hF1 he1
          unfold h_me
          rw [if_neg (by decide)]
          omega
        · show Y X 0 48 [some (.ref am), some (.int (nI 0))] [.int (nI 0)] ws1 ts1
          refine y_isn hC (E 25 _ rfl) ?_
          refine y_go hC (E 26 _ rfl) ?_
          exact doneL ws1 ts1 fs1 0 hb1 he1 hD1
      · have ew : w = 1 := by
          rcases h_nI01 hw2 with ⟨q, _⟩ | ⟨_, q⟩
          · exact absurd q hg
          · exact q
        subst ew
        unfold h_me at hM
        rw [if_pos rfl] at hM
        refine y_aln hC (E 20 _ rfl) rfl ?_
        refine y_vir hok hC (E 21 _ rfl) (by decide) (As := []) (rv := []) (dd := (4, 0)) (kc := h_ke rb) (by rw [htt]; exact h_m_unit hok hcl hrb (J := y_J X) hJ9 hW2 hWh2 hMi2 hGo2 hp0 hF hee) hF.1.1 rfl rfl (dp 5 (by decide)) hn h_cat0 (by rw [hkw]; exact fun _ _ h => h) (fun v ws1 ts1 _ hpo => ?_)
        obtain ⟨fs1, hb1, he1, hcase⟩ := hpo
        rcases hcase with ⟨hbad, b9, hb9, rfl⟩ | ⟨rfl, pi', u', wi', hF1, hlt⟩ | ⟨rfl, u', pi', wi', hF1, hlt⟩
        · show Y X 0 41 [some (.ref am), some (.int (nI 1))] [.int (nI b9)] ws1 ts1
          refine y_go hC (E 22 _ rfl) ?_
          refine y_isn hC (E 25 _ rfl) ?_
          refine y_go hC (E 26 _ rfl) ?_
          exact badL ws1 ts1 fs1 b9 hb1 he1 hbad
        · have hF2 := hF1
          obtain ⟨-, _, _, _, _, _, _, _, _, _, _, _, _, _, _, _, _, hp1⟩ := hF1
          have a1 := hp1.2.2.2.2.2.2.1
          have a2 := hp1.2.2.2.1
          show Y X 0 41 [some (.ref am), some (.int (nI 1))] [.int (nI 1)] ws1 ts1
          refine y_go hC (E 22 _ rfl) ?_
          refine y_isn hC (E 25 _ rfl) ?_
          refine y_go hC (E 26 _ rfl) ?_
          refine IH 1 ws1 ts1 fs1 u' pi' wi' ?_ hF2 he1
          unfold h_me
          rw [if_pos rfl]
          omega
        · have hF2 := hF1
          obtain ⟨-, _, _, _, _, _, _, _, _, _, _, _, _, _, _, _, _, hp1⟩ := hF1
          have a1 := hp1.2.2.2.2.2.2.1
          have a2 := hp1.bnd
          show Y X 0 41 [some (.ref am), some (.int (nI 1))] [.int (nI 0)] ws1 ts1
          refine y_go hC (E 22 _ rfl) ?_
          refine y_isn hC (E 25 _ rfl) ?_
          refine y_go hC (E 26 _ rfl) ?_
          refine IH 0 ws1 ts1 fs1 u' pi' wi' ?_ hF2 he1
          unfold h_me
          rw [if_neg (by decide)]
          omega
  -- the beginning
  refine y_ty (fun tys hw hD => ?_)
  rw [htt] at hw
  obtain ⟨o2, o3⟩ := h_objt hw hb.1 hb.2.1
  obtain ⟨x39, x391, x392, x393⟩ := h_fi o2 o3 (k := 39) (lo := 2147483648) (hi := 2147483678) (by decide) rfl
  obtain ⟨ur, -, rfl, eur⟩ := z_nat (x := x39) x392
  obtain ⟨je, ae, cE, g, e1, e2, e3, -⟩ := h_fa hw o2 o3 (k := 31) (t := 63) (u := 0) (by decide) rfl rfl
  obtain ⟨js, as9, cS, g9, b1, b2, b3, -⟩ := h_fa hw o2 o3 (k := 32) (t := 64) (u := 0) (by decide) rfl rfl
  obtain ⟨jk, ak, cK, fk, k1, k2, k3, -⟩ := h_fa hw o2 o3 (k := 29) (t := 61) (u := 0) (by decide) rfl rfl
  obtain ⟨jn, an, cN, fn, n1, n2, n3, -⟩ := h_fa hw o2 o3 (k := 30) (t := 62) (u := 0) (by decide) rfl rfl
  obtain ⟨ju, au, cU, fu, u1, u2, u3, u4⟩ := h_fa hw o2 o3 (k := 17) (t := 46) (u := 0) (by decide) rfl rfl
  have u4 := h_b25 (by decide) u4 rb hrb
  obtain ⟨u, -, eu, eub⟩ := z_nat (x := fu rb) u4.1
  show Y X 0 0 [some (.ref am), none] [] ws ts
  refine y_aln hC (E 0 _ rfl) rfl ?_
  refine y_ic hC (E 1 _ rfl) ?_
  refine y_put hcl hC (E 2 _ rfl) hb.1 hb.2.1 (by rw [htt]; rfl) ?_ (by rw [hb.2.2]; decide) (by rw [hkw]; exact h_kef (by omega)) (Or.inl ⟨rfl, _, rfl⟩) ?_
  · rw [htt]
    show z_tv _ ts (0, 2147483648, 2147483738) _
    exact h_tvn (by decide) (by decide) (by decide)
  obtain ⟨hbA, mvA⟩ := h_upd0 (q := 38) hb (.int (nI 0))
  have fA : ∀ k, ¬ 38 = k → (fs.set 38 (.int (nI 0)))[k]? = fs[k]? := fun k hk => List.getElem?_set_ne hk
  refine y_aln hC (E 3 _ rfl) rfl ?_
  refine y_ic hC (E 4 _ rfl) ?_
  refine y_put hcl hC (E 5 _ rfl) hbA.1 hbA.2.1 (by rw [htt]; rfl) ?_ (by rw [hbA.2.2]; decide) (by rw [hkw]; exact h_kef (by omega)) (Or.inl ⟨rfl, _, rfl⟩) ?_
  · rw [htt]
    show z_tv _ ts (0, 2147483648, 2147483655) _
    exact h_tvn (by decide) (by decide) (by decide)
  obtain ⟨hbB, mvB⟩ := h_upd0 (q := 37) hbA (.int (nI 0))
  have fB : ∀ k, ¬ 37 = k → ((fs.set 38 (.int (nI 0))).set 37 (.int (nI 0)))[k]? = (fs.set 38 (.int (nI 0)))[k]? := fun k hk => List.getElem?_set_ne hk
  have g35 := ((fB 35 (by decide)).trans (fA 35 (by decide))).trans f35
  have g36 := ((fB 36 (by decide)).trans (fA 36 (by decide))).trans f36
  have g39 := ((fB 39 (by decide)).trans (fA 39 (by decide))).trans x391
  have g38 : ((fs.set 38 (.int (nI 0))).set 37 (.int (nI 0)))[38]? = some (.int (nI 0)) := (fB 38 (by decide)).trans (List.getElem?_set_self (by rw [hb.2.2]; decide))
  have g37 : ((fs.set 38 (.int (nI 0))).set 37 (.int (nI 0)))[37]? = some (.int (nI 0)) := List.getElem?_set_self (by rw [hbA.2.2]; decide)
  have enB : h_en ((fs.set 38 (.int (nI 0))).set 37 (.int (nI 0))) := by
    obtain ⟨e0, q1, q2⟩ := hen
    exact ⟨e0, ((fB 7 (by decide)).trans (fA 7 (by decide))).trans q1, q2⟩
  have mAB : ∀ {k t n j a : Nat} {cA : ClassId} {f : Nat → Int32}, h_row ws ts fs k t n j a cA f → ¬ 40 = t → ¬ 38 = k → ¬ 37 = k → h_row ((ws.set jm (am, .inr (9, fs.set 38 (.int (nI 0))))).set jm (am, .inr (9, (fs.set 38 (.int (nI 0))).set 37 (.int (nI 0))))) ts ((fs.set 38 (.int (nI 0))).set 37 (.int (nI 0))) k t n j a cA f := fun hh q1 q2 q3 => (((hh.set hb.2.1 q1).fld q2).set hb.2.1 q1).fld q3
  have w1 := mAB (show h_row ws ts fs 31 63 90 je ae cE g from ⟨e1, e2, e3⟩) (by decide) (by decide) (by decide)
  have w2 := mAB (show h_row ws ts fs 32 64 90 js as9 cS g9 from ⟨b1, b2, b3⟩) (by decide) (by decide) (by decide)
  have w3 := mAB (show h_row ws ts fs 29 61 1120 jk ak cK fk from ⟨k1, k2, k3⟩) (by decide) (by decide) (by decide)
  have w4 := mAB (show h_row ws ts fs 30 62 1120 jn an cN fn from ⟨n1, n2, n3⟩) (by decide) (by decide) (by decide)
  have w5 := mAB (show h_row ws ts fs 17 46 2 ju au cU fu from ⟨u1, u2, u3⟩) (by decide) (by decide) (by decide)
  clear mAB mvA mvB fA fB
  generalize (fs.set 38 (.int (nI 0))).set 37 (.int (nI 0)) = fs4 at hbB g35 g36 g37 g38 g39 enB w1 w2 w3 w4 w5
  generalize (ws.set jm (am, .inr (9, fs.set 38 (.int (nI 0))))).set jm (am, .inr (9, fs4)) = ws4 at hbB w1 w2 w3 w4 w5
  refine y_aln hC (E 6 _ rfl) rfl ?_
  refine y_bp hC (E 7 _ rfl) ?_
  refine y_ic hC (E 8 _ rfl) ?_
  refine y_vir hok hC (E 9 _ rfl) (by decide) (As := [.int (nI 8), .int (nI 0)]) (rv := []) (dd := (0, 0)) (by rw [htt]; exact h_m_push hok hcl hbB g38 (by decide) w1 w2 (w9 := 8) (by decide) (nI 0)) hbB.1 rfl rfl (dp 1 (by decide)) hn h_cat0 ?_ (fun v ws3 ts3 _ hpo => ?_)
  · rw [hkw]
    intro t q hq
    obtain ⟨e, e1, e2, e3, e4⟩ := z_kw_iff.mp hq
    rcases List.mem_cons.mp e1 with rfl | e1
    · subst e2
      exact h_wrm (t := 63) (lo := 2147483648) (hi := 2147483737) (by simp [h_ke]) e3 e4
    rcases List.mem_cons.mp e1 with rfl | e1
    · subst e2
      exact h_wrm (t := 64) (lo := 2147483648) (hi := 2147483737) (by simp [h_ke]) e3 e4
    · rcases List.mem_singleton.mp e1 with rfl
      subst e2
      have e3 : 2147483686 ≤ 2147483648 + q := e3
      have e4 : 2147483648 + q ≤ 2147483686 := e4
      exact h_kef (by omega)
  obtain ⟨rfl, rfl, rfl⟩ := hpo
  obtain ⟨hb3, v1, v2, mv⟩ := h_upd2 (q := 38) hbB w1 w2 (by decide) (by decide) (by decide) (by decide) (by decide) (upd g 0 (nI 8)) (upd g9 0 (nI 0)) (.int (nI (0 + 1)))
  have f3 : ∀ k, ¬ 38 = k → (fs4.set 38 (.int (nI (0 + 1))))[k]? = fs4[k]? := fun k hk => List.getElem?_set_ne hk
  show Y X 0 17 [some (.ref am), none] [] _ ts3
  refine y_ic hC (E 10 _ rfl) ?_
  refine y_isn hC (E 11 _ rfl) ?_
  refine loop _ 1 _ ts3 (fs4.set 38 (.int (nI (0 + 1)))) u 1 0 (Nat.le_refl _) ⟨hb3, fun _ => 8, _, _, fk, fn, fu, p0, ur, (f3 35 (by decide)).trans g35, (f3 36 (by decide)).trans g36, (f3 37 (by decide)).trans g37, List.getElem?_set_self (by rw [hbB.2.2]; decide), ⟨(f3 39 (by decide)).trans g39, by omega⟩, ⟨v1, v2⟩, ⟨mv _ _ _ _ (h_rw.of w3) (by decide) (by decide) (by decide) (by decide), mv _ _ _ _ (h_rw.of w4) (by decide) (by decide) (by decide) (by decide)⟩, ⟨mv _ _ _ _ (h_rw.of w5) (by decide) (by decide) (by decide) (by decide), eu⟩, ?_⟩ ?_
  · refine ⟨Nat.le_refl _, ⟨rfl, fun k hk => ?_, fun k q1 q2 => by omega, fun k q1 q2 => by omega, fun k q1 q2 => by omega, fun k hk => by omega⟩, rfl, by decide, Nat.le_refl _, by rw [Nat.sub_self]; rfl, by omega, fun _ => by omega, fun hx => absurd hx (by decide), by decide⟩
    have ek : k = 0 := by omega
    subst ek
    exact pk_us ..
  · obtain ⟨e0, q1, q2⟩ := enB
    exact ⟨e0, (f3 7 (by decide)).trans q1, q2⟩
end HY
