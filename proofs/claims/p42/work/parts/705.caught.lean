/-! ===== by hand: layCaught ===== -/
section YJ
variable {X : y_X} {n pc : Nat} {L : List (Option Value)} {st : List Value} {ws : va_W} {ts : List Nat}
theorem y_tyJ (hC : y_C X) (k : ∀ tys, z_W (y_tt X) ws tys ts → va_D (q_A (y_b X)) ws → y_J X ws ts → z_Fr (y_kw X) (y_w0 X) (y_t0 X) ws ts → Y X n pc L st ws ts) : Y X n pc L st ws ts := fun H locs ls tys hp hL => k tys hp.1 hp.2.2.2.1 (hC.2.2 ws ts hp.2.2.2.2.2) hp.2.2.2.2.2 H locs ls tys hp hL
end YJ
section HV
variable {ws ws' : va_W} {ts ts' : List Nat} {tys : List (ClassId × FieldType)}
theorem h_nwr (t q : Nat) : ¬ z_wr [] t q := fun h => by
  have h : false = true := h
  cases h
/-- an object, behind a call that writes nothing -/
theorem h_fr_obj (hf : z_Fr [] ws ts ws' ts') (hw : z_W z_tt ws' tys ts') {j a : Nat} {fs : List Value} (h1 : ws[j]? = some (a, .inr (9, fs))) (h2 : ts[j]? = some 40) (hl : fs.length = 68) : ws'[j]? = some (a, .inr (9, fs)) ∧ ts'[j]? = some 40 := by
  have h3 := z_gm hf.1 h2
  refine ⟨?_, h3⟩
  obtain ⟨fs', o1, o2, -⟩ := h_obj hw (z_gm hf.2.1 (h_ad h1)) h3 rfl
  have o1 : ws'[j]? = some (a, .inr (9, fs')) := o1
  have o2 : fs'.length = 68 := o2
  have e : fs' = fs := by
    refine List.ext_getElem? (fun k => ?_)
    rcases Nat.lt_or_ge k 68 with hk | hk
    · have hv : fs[k]? = some (fs[k]'(by omega)) := List.getElem?_eq_getElem (by omega)
      obtain ⟨e', g1, g2⟩ := hf.2.2 j a 40 k (.inr (9, fs)) (fs[k]'(by omega)) h1 h2 hv (h_nwr _ _)
      rw [o1] at g1
      cases g1
      have g2 : fs'[k]? = some (fs[k]'(by omega)) := g2
      rw [g2, hv]
    · rw [List.getElem?_eq_none (by omega), List.getElem?_eq_none (by omega)]
  rw [o1, e]
theorem h_row.fr (hf : z_Fr [] ws ts ws' ts') (hw : z_W z_tt ws' tys ts') {fs : List Value} {k t n j a : Nat} {cA : ClassId} {f : Nat → Int32} (h : h_row ws ts fs k t n j a cA f) (ht : (z_tt t).1 = 1) (hn : (z_tt t).2.1 = n) : ∃ (cB : ClassId) (g : Nat → Int32), h_row ws' ts' fs k t n j a cB g ∧ ∀ q, q < n → g q = f q := by
  have h3 := z_gm hf.1 h.2.2
  obtain ⟨cB, g, g1, -⟩ := h_arr hw (z_gm hf.2.1 (h_ad h.2.1)) h3 ht
  rw [hn] at g1
  refine ⟨cB, g, ⟨h.1, g1, h3⟩, fun q hq => ?_⟩
  obtain ⟨e', e1, e2⟩ := hf.2.2 j a t q _ (.int (f q)) h.2.1 h.2.2 (h_aat hq) (h_nwr _ _)
  rw [g1] at e1
  cases e1
  rw [h_aat hq] at e2
  exact Value.int.inj (Option.some.inj e2)
theorem h_bd.fr (hf : z_Fr [] ws ts ws' ts') (hw : z_W z_tt ws' tys ts') {jm am b : Nat} {fs : List Value} {fc fr : Nat → Int32} (h : h_bd ws ts jm am fs b fc fr) (hl : fs.length = 68) : ∃ fc' fr', h_bd ws' ts' jm am fs b fc' fr' ∧ fc' b = fc b ∧ fr' b = fr b := by
  obtain ⟨b1, b2, b3, b4, ⟨jc, ac, cA, c1, c2, c3⟩, jr, ar, cR, r1, r2, r3⟩ := h
  obtain ⟨o1, o2⟩ := h_fr_obj hf hw b1 b2 hl
  obtain ⟨cB, fc', ⟨g1, g2, g3⟩, g4⟩ := h_row.fr hf hw (show h_row ws ts fs 11 49 2 jc ac cA fc from ⟨c1, c2, c3⟩) rfl rfl
  obtain ⟨cD, fr', ⟨d1, d2, d3⟩, d4⟩ := h_row.fr hf hw (show h_row ws ts fs 12 50 2 jr ar cR fr from ⟨r1, r2, r3⟩) rfl rfl
  exact ⟨fc', fr', ⟨o1, o2, b3, b4, ⟨jc, ac, cB, g1, g2, g3⟩, jr, ar, cD, d1, d2, d3⟩, g4 b b4, d4 b b4⟩
/-- the facts that a contract wants, out of the board -/
theorem h_bd.pf {jm am b na : Nat} {fs : List Value} {fc fr : Nat → Int32} (h : h_bd ws ts jm am fs b fc fr) (h1 : 2147483650 ≤ q_qb (fc b)) (h2 : q_qb (fc b) ≤ 2147483653) {av : List Value} (hav : av[0]? = some (.ref am)) (hna : av.length = na) : ∃ bv, z_Pf ws ts (h_bf na b) av bv := by
  obtain ⟨b1, b2, b3, b4, ⟨jc, ac, cA, c1, c2, c3⟩, -⟩ := h
  have e2 : (av ++ [Value.int (nI b)])[0]? = some (.ref am) := z_gm (List.prefix_append _ _) hav
  have e3 : (av ++ [Value.int (nI b)] ++ [Value.ref ac])[na + 1]? = some (.ref ac) := by
    have : (av ++ [Value.int (nI b)] ++ [Value.ref ac])[(av ++ [Value.int (nI b)]).length + 0]? = some (.ref ac) := z_getr rfl
    rw [List.length_append, hna] at this
    exact this
  exact ⟨_, am, jm, .inr (9, fs), .int (nI b), hav, b1, b3, h_tvn (by omega) (by omega) (by omega), am, jm, .inr (9, fs), .ref ac, e2, b1, c1, Or.inr (Or.inl ⟨rfl, jc, ac, rfl, h_ad c2, c3⟩), ac, jc, .inl (cA, 2, .inl fc), .int (fc b), e3, c2, h_aat b4, Or.inl ⟨rfl, _, rfl, h1, h2⟩, rfl⟩
end HV
theorem h_cp0 {M : z_M} {bv : List Value} {ws : va_W} {ts : List Nat} (h1 : M.2.2.2.2.2.2.1 = false) (h2 : M.2.2.2.2.2.2.2.2 = []) : z_CP M bv none ws ts := ⟨by rw [if_neg (by rw [h1]; decide)], fun q hq => by rw [h2] at hq; cases hq⟩
def h_Mhunt (b : Nat) : z_M := (251, [(1, 40, 0), (0, 2147483648, 2147483672), (0, 2147483648, 2147483672)], h_bf 3 b, [], 0, 4, true, [(0, 2147483649, 2147493648)], [])
def h_kcau : List z_C := [(77, 2147483648, 2147484272)]
def h_Mcau (b : Nat) : z_M := (260, [(1, 40, 0)], h_bf 1 b, h_kcau, 0, 5, false, [], [])
/-- the state between layCaught's steps -/
def h_lc (ws : va_W) (ts : List Nat) (jm am b : Nat) (f : Nat → Int32) : Prop := ∃ (fs : List Value) (fc fr : Nat → Int32) (jg ag : Nat) (cG : ClassId), h_bd ws ts jm am fs b fc fr ∧ fs.length = 68 ∧ 2147483650 ≤ q_qb (fc b) ∧ q_qb (fc b) ≤ 2147483653 ∧ h_row ws ts fs 55 77 625 jg ag cG f
section HC
variable {X : y_X} {jm am b : Nat} {post : Option Value → va_W → List Nat → Prop}
theorem h_lc_in (hok : ∀ i, i < q_nM → q_mok i) (hcl : q_clok) (hC : y_C X) (htt : y_tt X = z_tt) (hi : y_i X = 260) (hd : y_d X = (5, 0)) (hkw : y_kw X = h_kcau) (hH : z_Con (y_l X) (y_b X) (y_D X) (y_sa X) (y_tt X) (y_J X) (h_Mhunt b)) {M : Nat} (kk : ∀ (ws : va_W) (ts : List Nat) (f : Nat → Int32) (more : Nat) (o2 o3 : Option Value), h_lc ws ts jm am b f → more < 2 → (more = 1 → h_sum f 625 < M) → Y X 0 41 [some (.ref am), some (.int (nI more)), o2, o3] [] ws ts) : ∀ (m v : Nat) (ws : va_W) (ts : List Nat) (f : Nat → Int32) (more : Nat) (o3 : Option Value), 625 - v = m → v ≤ 625 → h_lc ws ts jm am b f → more < 2 → h_sum f 625 ≤ M → (more = 1 → h_sum f 625 < M) → Y X 0 49 [some (.ref am), some (.int (nI more)), some (.int (nI v)), o3] [] ws ts := by
  have E := y_Ei hok hi (by decide) (cd := q_cd260) rfl
  have hn : (0 : Nat) ≤ (y_d X).2 := Nat.zero_le _
  intro m
  induction m with
  | zero =>
    intro v ws ts f more o3 hm hv hlc hmo hM hM2
    have e : v = 625 := by omega
    subst e
    refine y_iln hC (E 29 _ rfl) rfl ?_
    refine y_sp hC (E 30 _ rfl) ?_
    refine y_cmp hC (E 31 _ rfl) (fun _ => ?_) (fun h => ?_)
    · refine y_go hC (E 77 _ rfl) ?_
      exact kk ws ts f more _ _ hlc hmo hM2
    · exact absurd h (nI_nlt (Nat.le_refl _) (by omega))
  | succ m IH =>
    intro v ws ts f more o3 hm hv hlc hmo hM hM2
    have hlt : v < 625 := by omega
    have ed : nI v / nI 25 = nI (v / 25) := pk_div (by omega) (by decide) (by decide)
    have er : nI v - nI v / nI 25 * nI 25 = nI (v % 25) := pk_rem (by omega) (by decide) (by decide)
    have hv1 : v / 25 < 25 := by omega
    have hv2 : v % 25 < 25 := Nat.mod_lt _ (by decide)
    have next : ∀ (ws : va_W) (ts : List Nat) (f : Nat → Int32) (more : Nat) (o3 : Option Value), h_lc ws ts jm am b f → more < 2 → h_sum f 625 ≤ M → (more = 1 → h_sum f 625 < M) → Y X 0 127 [some (.ref am), some (.int (nI more)), some (.int (nI v)), o3] [] ws ts := by
      intro ws ts f more o3 h1 h2 h3 h4
      refine y_ii hC (E 75 _ rfl) rfl ?_
      refine y_go hC (E 76 _ rfl) ?_
      have := IH (v + 1) ws ts f more o3 (by omega) (by omega) h1 h2 h3 h4
      rw [nI_succ] at this
      exact this
    refine y_iln hC (E 29 _ rfl) rfl ?_
    refine y_sp hC (E 30 _ rfl) ?_
    refine y_cmp hC (E 31 _ rfl) (fun h => absurd h (nI_ge hlt (by omega))) (fun _ => ?_)
    have hlc2 := hlc
    obtain ⟨fs, fc, fr, jg, ag, cG, hbd, hl, hc1, hc2, hg⟩ := hlc
    refine y_tyJ hC (fun tys hw hD hJ hfr0 => ?_)
    rw [htt] at hw
    obtain ⟨hl9, ht9⟩ := h_objt hw hbd.1 hbd.2.1
    obtain ⟨jh, ah, cH, fh, k1, k2, k3, -⟩ := h_fa hw hl9 ht9 (k := 15) (t := 45) (u := 0) (by decide) rfl rfl
    have hh : h_row ws ts fs 15 45 2 jh ah cH fh := ⟨k1, k2, k3⟩
    refine y_aln hC (E 32 _ rfl) rfl ?_
    refine y_iln hC (E 33 _ rfl) rfl ?_
    refine y_bp hC (E 34 _ rfl) ?_
    refine y_div hC (E 35 _ rfl) (by decide) ?_
    rw [ed]
    refine y_virq hok hC (E 36 _ rfl) (by decide) (As := [.int (nI (v / 25))]) (rv := []) (by rw [htt]; exact h_m_isfree hok hcl hbd hh (nI (v / 25))) hbd.1 rfl rfl (by rw [hd]; decide) hn h_cat0 ?_
    refine y_if hC (E 37 _ rfl) (fun _ => next ws ts f more o3 hlc2 hmo hM hM2) (fun _ => ?_)
    refine y_aln hC (E 38 _ rfl) rfl ?_
    refine y_iln hC (E 39 _ rfl) rfl ?_
    refine y_bp hC (E 40 _ rfl) ?_
    refine y_rem hC (E 41 _ rfl) (by decide) ?_
    rw [er]
    refine y_virq hok hC (E 42 _ rfl) (by decide) (As := [.int (nI (v % 25))]) (rv := []) (by rw [htt]; exact h_m_isfree hok hcl hbd hh (nI (v % 25))) hbd.1 rfl rfl (by rw [hd]; decide) hn h_cat0 ?_
    refine y_if hC (E 43 _ rfl) (fun _ => next ws ts f more o3 hlc2 hmo hM hM2) (fun _ => ?_)
    refine y_iln hC (E 44 _ rfl) rfl ?_
    refine y_bp hC (E 45 _ rfl) ?_
    refine y_div hC (E 46 _ rfl) (by decide) ?_
    refine y_iln hC (E 47 _ rfl) rfl ?_
    refine y_bp hC (E 48 _ rfl) ?_
    refine y_rem hC (E 49 _ rfl) (by decide) ?_
    refine y_cmp hC (E 50 _ rfl) (fun _ => ?_) (fun _ => ?_)
    · refine y_aln hC (E 52 _ rfl) rfl ?_
      refine y_iln hC (E 53 _ rfl) rfl ?_
      refine y_bp hC (E 54 _ rfl) ?_
      refine y_div hC (E 55 _ rfl) (by decide) ?_
      rw [ed]
      refine y_iln hC (E 56 _ rfl) rfl ?_
      refine y_bp hC (E 57 _ rfl) ?_
      refine y_rem hC (E 58 _ rfl) (by decide) ?_
      rw [er]
      obtain ⟨bv, hbv⟩ := hbd.pf (na := 3) (av := [.ref am, .int (nI (v / 25)), .int (nI (v % 25))]) hc1 hc2 rfl rfl
      refine y_vir hok hC (E 59 _ rfl) (by decide) (As := [.int (nI (v / 25)), .int (nI (v % 25))]) (rv := []) (dd := (4, 0)) (kc := []) (hH ws ts [.ref am, .int (nI (v / 25)), .int (nI (v % 25))] bv ⟨Or.inr (Or.inl ⟨rfl, jm, am, rfl, h_ad hbd.1, hbd.2.1⟩), h_tvn (by omega) (by omega) (by omega), h_tvn (by omega) (by omega) (by omega), trivial⟩ hbv hJ) hbd.1 rfl rfl (by rw [hd]; decide) hn h_cat0 h_nk (fun r ws' ts' hfr hp => ?_)
      have hp1 := hp.1
      rw [if_pos (show (h_Mhunt b).2.2.2.2.2.2.1 = true from rfl)] at hp1
      obtain ⟨t, t1, r0, rfl, t2⟩ := hp1
      rcases List.mem_singleton.mp t1 with rfl
      obtain ⟨its, rfl, i1, i2⟩ := h_tvi t2
      refine y_ty (fun tys' hw' hD' => ?_)
      rw [htt] at hw'
      obtain ⟨fc', fr', hbd', e1, e2⟩ := hbd.fr hfr hw' hl
      obtain ⟨cG', g, hg', hgf⟩ := hg.fr hfr hw' rfl rfl
      have hsum : h_sum g 625 = h_sum f 625 := h_sum_eq hgf
      have hlc' : h_lc ws' ts' jm am b g := ⟨fs, fc', fr', jg, ag, cG', hbd', hl, by rw [e1]; exact hc1, by rw [e1]; exact hc2, hg'⟩
      show Y X 0 104 [some (.ref am), some (.int (nI more)), some (.int (nI v)), o3] [.int its] ws' ts'
      refine y_isn hC (E 60 _ rfl) ?_
      refine y_iln hC (E 61 _ rfl) rfl ?_
      refine y_aln hC (E 62 _ rfl) rfl ?_
      refine y_get hcl hC (E 63 _ rfl) hbd'.1 hg'.1 ?_
      refine y_iln hC (E 64 _ rfl) rfl ?_
      refine y_ald hC (E 65 _ rfl) hg'.2.1 hg'.2.2 (by rw [htt]; rfl) hlt (by decide) ?_
      refine y_cmp hC (E 66 _ rfl) (fun h => ?_) (fun _ => ?_)
      · have h : q_qb its < q_qb (g v) := (q_lt_iff _ _).mp h
        refine y_aln hC (E 68 _ rfl) rfl ?_
        refine y_get hcl hC (E 69 _ rfl) hbd'.1 hg'.1 ?_
        refine y_iln hC (E 70 _ rfl) rfl ?_
        refine y_iln hC (E 71 _ rfl) rfl ?_
        refine y_ast hC (E 72 _ rfl) hg'.2.1 hg'.2.2 (by rw [htt]; rfl) hlt (by decide) ?_ (by rw [hkw]; exact h_wrm (lo := 2147483648) (hi := 2147484272) (List.mem_singleton.mpr rfl) (by omega) (by omega)) ?_
        · rw [htt]
          show (z_el [(625, 2147483648, 2147503648)] (v % 625)).1 ≤ _ ∧ _ ≤ (z_el [(625, 2147483648, 2147503648)] (v % 625)).2
          rw [h_el25 v (by decide)]
          have i1 : 2147483649 ≤ q_qb its := i1
          have i2 : q_qb its ≤ 2147493648 := i2
          exact ⟨by omega, by omega⟩
        refine y_ic hC (E 73 _ rfl) ?_
        refine y_isn hC (E 74 _ rfl) ?_
        have hs := h_sum_upd (f := g) (c := v) (v := its) (k := 625) hlt
        have i1 : 2147483649 ≤ q_qb its := i1
        exact next _ ts' (upd g v its) 1 _ ⟨fs, fc', fr', jg, ag, cG', hbd'.set hg'.2.2 (by decide) (by decide) (by decide), hl, by rw [e1]; exact hc1, by rw [e1]; exact hc2, hg'.self _⟩ (by decide) (by omega) (fun _ => by omega)
      · refine y_go hC (E 67 _ rfl) ?_
        exact next ws' ts' g more _ hlc' hmo (by omega) (fun h => by have := hM2 h; omega)
    · refine y_go hC (E 51 _ rfl) ?_
      exact next ws ts f more o3 hlc2 hmo hM hM2
theorem h_lc_out (hok : ∀ i, i < q_nM → q_mok i) (hcl : q_clok) (hC : y_C X) (htt : y_tt X = z_tt) (hi : y_i X = 260) (hd : y_d X = (5, 0)) (hkw : y_kw X = h_kcau) (hH : z_Con (y_l X) (y_b X) (y_D X) (y_sa X) (y_tt X) (y_J X) (h_Mhunt b)) (hQ : y_end X post) (hp : ∀ ws ts, post none ws ts) : ∀ (M : Nat) (ws : va_W) (ts : List Nat) (f : Nat → Int32) (o2 o3 : Option Value), h_lc ws ts jm am b f → h_sum f 625 ≤ M → Y X 0 41 [some (.ref am), some (.int (nI 1)), o2, o3] [] ws ts := by
  have E := y_Ei hok hi (by decide) (cd := q_cd260) rfl
  intro M
  induction M with
  | zero =>
    intro ws ts f o2 o3 hlc hM
    refine y_iln hC (E 23 _ rfl) rfl ?_
    refine y_if hC (E 24 _ rfl) (fun h => absurd (show nI 1 = 0 from h) (by decide)) (fun _ => ?_)
    refine y_ic hC (E 25 _ rfl) ?_
    refine y_isn hC (E 26 _ rfl) ?_
    refine y_ic hC (E 27 _ rfl) ?_
    refine y_isn hC (E 28 _ rfl) ?_
    refine h_lc_in hok hcl hC htt hi hd hkw hH (M := 0) (fun ws ts f more o2 o3 h1 h2 h3 => ?_) (625 - 0) 0 ws ts f 0 o3 rfl (by decide) hlc (by decide) hM (fun h => absurd h (by decide))
    have h0 : more = 0 := by
      rcases Nat.eq_zero_or_pos more with h | h
      · exact h
      · have := h3 (by omega)
        omega
    subst h0
    refine y_iln hC (E 23 _ rfl) rfl ?_
    refine y_if hC (E 24 _ rfl) (fun _ => ?_) (fun h => absurd nI_0 h)
    exact y_vr hC hQ (E 78 _ rfl) (Nat.zero_le _) (hp _ _)
  | succ M IH =>
    intro ws ts f o2 o3 hlc hM
    refine y_iln hC (E 23 _ rfl) rfl ?_
    refine y_if hC (E 24 _ rfl) (fun h => absurd (show nI 1 = 0 from h) (by decide)) (fun _ => ?_)
    refine y_ic hC (E 25 _ rfl) ?_
    refine y_isn hC (E 26 _ rfl) ?_
    refine y_ic hC (E 27 _ rfl) ?_
    refine y_isn hC (E 28 _ rfl) ?_
    refine h_lc_in hok hcl hC htt hi hd hkw hH (M := M + 1) (fun ws ts f more o2 o3 h1 h2 h3 => ?_) (625 - 0) 0 ws ts f 0 o3 rfl (by decide) hlc (by decide) hM (fun h => absurd h (by decide))
    rcases Nat.eq_zero_or_pos more with h | h
    · subst h
      refine y_iln hC (E 23 _ rfl) rfl ?_
      refine y_if hC (E 24 _ rfl) (fun _ => ?_) (fun h => absurd nI_0 h)
      exact y_vr hC hQ (E 78 _ rfl) (Nat.zero_le _) (hp _ _)
    · have e : more = 1 := by omega
      subst e
      have := h3 rfl
      exact IH ws ts f o2 o3 h1 (by omega)
end HC
section HD
variable {l : Launch} {base : Nat} {D : va_G} {sa : Nat → Nat} {J : va_W → List Nat → Prop}
theorem h_con_cau (hok : ∀ i, i < q_nM → q_mok i) (hcl : q_clok) {b : Nat} (hb2 : b < 2) (hJ : ∀ ws ts ws' ts', J ws ts → z_Fr h_kcau ws ts ws' ts' → J ws' ts') (hH : z_Con l base D sa z_tt J (h_Mhunt b)) : z_Con l base D sa z_tt J (h_Mcau b) := by
  intro ws ts av bv ha hf hj
  obtain ⟨vm, rfl, hvm⟩ := h_ta1 ha
  obtain ⟨jm, am, rfl, hm1, hm2⟩ := h_rt hvm
  refine z_ofW (fun tys hw hD => ?_)
  obtain ⟨fs, fc, fr, N, hbd, hlen, htv, hNe, hN, hne⟩ := h_bank hw hD hb2 hm1 hm2 rfl rfl hf
  have hlen : fs.length = 68 := hlen
  obtain ⟨jg, ag, cG, f0, g1, g2, g3, g4⟩ := h_fa hw hlen htv (k := 55) (t := 77) (u := 0) (by decide) rfl rfl
  have hg : h_row ws ts fs 55 77 625 jg ag cG f0 := ⟨g1, g2, g3⟩
  have hcb : 2147483650 ≤ q_qb (fc b) ∧ q_qb (fc b) ≤ 2147483653 := by
    obtain ⟨a1, j1, e1, v1, p1, p2, p3, p4, a2, j2, e2, v2, q1, q2, q3, q4, a3, j3, e3, v3, s1, s2, s3, s4, -⟩ := hf
    obtain ⟨b1, b2, b3, b4, ⟨jc, ac, cA, c1, c2, c3⟩, -⟩ := hbd
    have p1 : some (Value.ref am) = some (.ref a1) := p1
    cases p1
    have q1 : some (Value.ref am) = some (.ref a2) := q1
    cases q1
    obtain ⟨rfl, rfl⟩ := h_same hD b1 q2
    have s1 : some v2 = some (.ref a3) := s1
    cases s1
    have q3 : fs[11]? = some (.ref a3) := q3
    rw [c1] at q3
    cases q3
    obtain ⟨rfl, rfl⟩ := h_same hD c2 s2
    rw [show z_at (.inl (cA, 2, .inl fc)) b = some (.int (fc b)) from h_aat hb2] at s3
    cases s3
    obtain ⟨xc, ex, u1, u2⟩ := h_tvi s4
    cases ex
    exact ⟨u1, u2⟩
  refine y_meth (J := J) (hok 260 (by decide)) (fun v hv => by rcases List.mem_singleton.mp hv with rfl; rfl) (show 1 ≤ 4 by decide) (fun ws' ts' h => hJ _ _ _ _ hj h) ?_
  intro p e s m below meth c X hX hC hQ
  have hi : y_i X = 260 := by rw [hX]; rfl
  have htt : y_tt X = z_tt := by rw [hX]
  have hkw : y_kw X = h_kcau := by rw [hX]; rfl
  have hd : y_d X = (5, 0) := by rw [hX]; rfl
  have hH2 : z_Con (y_l X) (y_b X) (y_D X) (y_sa X) (y_tt X) (y_J X) (h_Mhunt b) := by rw [hX]; exact hH
  clear hX
  have E := y_Ei hok hi (by decide) (cd := q_cd260) rfl
  have loop : ∀ (m v : Nat) (f : Nat → Int32), 625 - v = m → v ≤ 625 → Y X 0 2 [some (.ref am), some (.int (nI v)), none, none] [] (ws.set jg (ag, .inl (cG, 625, .inl f))) ts := by
    intro m
    induction m with
    | zero =>
      intro v f hm hv
      have e : v = 625 := by omega
      subst e
      refine y_iln hC (E 2 _ rfl) rfl ?_
      refine y_sp hC (E 3 _ rfl) ?_
      refine y_cmp hC (E 4 _ rfl) (fun _ => ?_) (fun h => absurd h (nI_nlt (Nat.le_refl _) (by omega)))
      refine y_ic hC (E 21 _ rfl) ?_
      refine y_isn hC (E 22 _ rfl) ?_
      exact h_lc_out hok hcl hC htt hi hd hkw hH2 hQ (fun _ _ => h_cp0 rfl rfl) _ _ ts f none none ⟨fs, fc, fr, jg, ag, cG, hbd.set g3 (by decide) (by decide) (by decide), hlen, hcb.1, hcb.2, hg.self f⟩ (Nat.le_refl _)
    | succ m IH =>
      intro v f hm hv
      have hlt : v < 625 := by omega
      have hg2 := hg.self f
      have hb3 := hbd.set (e := (ag, .inl (cG, 625, .inl f))) g3 (by decide) (by decide) (by decide)
      have store : ∀ x, x ≤ 10000 → Y X 0 32 [some (.ref am), some (.int (nI v)), none, none] [.int (nI x), .int (nI v), .ref ag] (ws.set jg (ag, .inl (cG, 625, .inl f))) ts := by
        intro x hx
        refine y_ast hC (E 18 _ rfl) hg2.2.1 hg2.2.2 (by rw [htt]; rfl) hlt (by decide) ?_ (by rw [hkw]; exact h_wrm (lo := 2147483648) (hi := 2147484272) (List.mem_singleton.mpr rfl) (by omega) (by omega)) ?_
        · rw [htt]
          show (z_el [(625, 2147483648, 2147503648)] (v % 625)).1 ≤ _ ∧ _ ≤ (z_el [(625, 2147483648, 2147503648)] (v % 625)).2
          rw [h_el25 v (by decide), z_qnI (by omega)]
          exact ⟨by omega, by omega⟩
        rw [List.set_set]
        refine y_ii hC (E 19 _ rfl) rfl ?_
        refine y_go hC (E 20 _ rfl) ?_
        have := IH (v + 1) (upd f v (nI x)) (by omega) (by omega)
        rw [nI_succ] at this
        exact this
      refine y_iln hC (E 2 _ rfl) rfl ?_
      refine y_sp hC (E 3 _ rfl) ?_
      refine y_cmp hC (E 4 _ rfl) (fun h => absurd h (nI_ge hlt (by omega))) (fun _ => ?_)
      refine y_aln hC (E 5 _ rfl) rfl ?_
      refine y_get hcl hC (E 6 _ rfl) hb3.1 hg2.1 ?_
      refine y_iln hC (E 7 _ rfl) rfl ?_
      refine y_iln hC (E 8 _ rfl) rfl ?_
      refine y_bp hC (E 9 _ rfl) ?_
      refine y_div hC (E 10 _ rfl) (by decide) ?_
      refine y_iln hC (E 11 _ rfl) rfl ?_
      refine y_bp hC (E 12 _ rfl) ?_
      refine y_rem hC (E 13 _ rfl) (by decide) ?_
      refine y_cmp hC (E 14 _ rfl) (fun _ => ?_) (fun _ => ?_)
      · refine y_sp hC (E 17 _ rfl) ?_
        exact store 10000 (Nat.le_refl _)
      · refine y_ic hC (E 15 _ rfl) ?_
        refine y_go hC (E 16 _ rfl) ?_
        exact store 0 (by decide)
  have := loop (625 - 0) 0 f0 rfl (by decide)
  have e0 : ws.set jg (ag, .inl (cG, 625, .inl f0)) = ws := by
    refine List.ext_getElem? (fun k => ?_)
    by_cases ek : jg = k
    · subst ek
      rw [List.getElem?_set_self (List.getElem?_eq_some_iff.mp hg.2.1).1, hg.2.1]
    · rw [List.getElem?_set_ne ek]
  rw [e0] at this
  show Y X 0 0 [some (.ref am), none, none, none] [] ws ts
  refine y_ic hC (E 0 _ rfl) ?_
  refine y_isn hC (E 1 _ rfl) ?_
  exact this
end HD
