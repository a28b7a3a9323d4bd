/-! ===== by hand: sly ===== -/
def h_Msly (b : Nat) : z_M := (125, [(1, 40, 0), (0, 0, 4294967295), (0, 0, 4294967295), (0, 0, 4294967295)], h_bf 4 b, h_kway, 0, 4, true, [(0, 0, 4294967295)], [])
section HY
variable {l : Launch} {base : Nat} {D : va_G} {sa : Nat → Nat} {J : va_W → List Nat → Prop}
theorem h_con_sly (hok : ∀ i, i < q_nM → q_mok i) (hcl : q_clok) (hJ : ∀ ws ts, J ws ts → h_posJ ws ts) {b : Nat} (hb2 : b < 2) : z_Con l base D sa z_tt J (h_Msly b) := by
  intro ws ts av bv ha hf hj
  obtain ⟨vm, vw, vc, vx, rfl, hvm, hvw, hvc, hvx⟩ := h_ta4 ha
  obtain ⟨jm, am, rfl, hm1, hm2⟩ := h_rt hvm
  obtain ⟨w, rfl, -⟩ := h_tvi hvw
  obtain ⟨to, rfl, -⟩ := h_tvi hvc
  obtain ⟨what, rfl, -⟩ := h_tvi hvx
  refine z_ofW (fun tys hw hD => ?_)
  obtain ⟨fs, fc, fr, N, hbd, hlen, htv, hNe, hN, hne⟩ := h_bank hw hD hb2 hm1 hm2 rfl rfl hf
  have hlen : fs.length = 68 := hlen
  obtain ⟨ju, au, cU, fu, u1, u2, u3, u4⟩ := h_fa hw hlen htv (k := 16) (t := 51) (u := 0) (by decide) rfl rfl
  obtain ⟨jh, ah, cH, fh, k1, k2, k3, -⟩ := h_fa hw hlen htv (k := 15) (t := 45) (u := 0) (by decide) rfl rfl
  obtain ⟨jw, aw, cW, w0, w1, w2, w3, -⟩ := h_fa hw hlen htv (k := 46) (t := 69) (u := 0) (by decide) rfl rfl
  obtain ⟨jl, aL, cL, q0, q1, q2, q3, -⟩ := h_fa hw hlen htv (k := 47) (t := 70) (u := 0) (by decide) rfl rfl
  obtain ⟨ja, aa, cB, al, g1, g2, g3, g4⟩ := h_fa hw hlen htv (k := 41) (t := 66) (u := 0) (by decide) rfl rfl
  have hu : h_row ws ts fs 16 51 2 ju au cU fu := ⟨u1, u2, u3⟩
  have hh : h_row ws ts fs 15 45 2 jh ah cH fh := ⟨k1, k2, k3⟩
  have hwr : h_row ws ts fs 46 69 25 jw aw cW w0 := ⟨w1, w2, w3⟩
  have hlr : h_row ws ts fs 47 70 26 jl aL cL q0 := ⟨q1, q2, q3⟩
  have har : h_row ws ts fs 41 66 438 ja aa cB al := ⟨g1, g2, g3⟩
  have hub := h_b25 (by decide) u4 b hb2
  have hpos := hJ ws ts hj jm am b N ja aa fs fc fr al cB hbd har hNe hN
  have hal : ∀ k, k < 5 → 2147483648 ≤ q_qb (al k) := fun k hk => by
    have := (g4 k (show k < 438 by omega)).1
    have e : (z_el (z_tt 66).2.2.1 (k % (z_tt 66).2.2.2.1)).1 = 2147483648 := by
      rcases (show k = 0 ∨ k = 1 ∨ k = 2 ∨ k = 3 ∨ k = 4 by omega) with rfl | rfl | rfl | rfl | rfl <;> rfl
    rw [e] at this
    exact this
  clear g4 u4 hw hD
  refine y_meth (J := fun _ _ => True) (hok 125 (by decide)) (fun v hv => by
    rcases List.mem_cons.mp hv with rfl | hv
    · rfl
    rcases List.mem_cons.mp hv with rfl | hv
    · rfl
    rcases List.mem_cons.mp hv with rfl | hv
    · rfl
    rcases List.mem_singleton.mp hv with rfl
    rfl) (show 4 ≤ 5 by decide) (fun _ _ _ => trivial) ?_
  intro p e s m below meth c X hX hC hQ
  have hi : y_i X = 125 := by rw [hX]; rfl
  have htt : y_tt X = z_tt := by rw [hX]
  have hkw : y_kw X = h_kway := by rw [hX]; rfl
  have hd : y_d X = (4, 0) := by rw [hX]; rfl
  clear hX
  have E := y_Ei hok hi (by decide) (cd := q_cd125) rfl
  have hn : (0 : Nat) ≤ (y_d X).2 := Nat.zero_le _
  have dp : ∀ k, k ≤ 4 → k ≤ (y_d X).1 := fun k hk => by rw [hd]; exact hk
  have ret : ∀ (ws' : va_W) (ts' : List Nat) (x : Int32), z_CP (h_Msly b) bv (some (.int x)) ws' ts' := fun ws' ts' x => h_cp1 rfl rfl (List.mem_singleton.mpr rfl) (h_tint _ _ x)
  show Y X 0 0 [some (.ref am), some (.int w), some (.int to), some (.int what), none] [] ws ts
  refine y_aln hC (E 0 _ rfl) rfl ?_
  refine y_ic hC (E 1 _ rfl) ?_
  refine y_put hcl hC (E 2 _ rfl) hbd.1 hm2 (by rw [htt]; rfl) ?_ (by omega) (by rw [hkw]; exact h_wrm List.mem_cons_self (by decide) (by decide)) (Or.inl ⟨rfl, _, rfl⟩) ?_
  · rw [htt]
    show z_tv _ ts (0, 2147483648, 2147483674) _
    exact h_tvn (by decide) (by decide) (by decide)
  have hbd1 := hbd.put (q := 48) (v := .int (nI 0)) (by decide) (by decide) (by decide)
  have mv : ∀ {k t n j a : Nat} {cA : ClassId} {f : Nat → Int32}, h_row ws ts fs k t n j a cA f → ¬ 48 = k → ¬ 40 = t → h_row (ws.set jm (am, .inr (9, fs.set 48 (.int (nI 0))))) ts (fs.set 48 (.int (nI 0))) k t n j a cA f := fun h h1 h2 => (h.set hm2 h2).fld h1
  have hu1 := mv hu (by decide) (by decide)
  have hh1 := mv hh (by decide) (by decide)
  have hw1 := mv hwr (by decide) (by decide)
  have hl1 := mv hlr (by decide) (by decide)
  have ha1 := mv har (by decide) (by decide)
  have hlen1 : (fs.set 48 (.int (nI 0))).length = 68 := by rw [List.length_set]; exact hlen
  clear mv hu hh hwr hlr har hbd hlen htv hm1 u1 u2 k1 k2 w1 w2 q1 q2 g1 g2 hvm hf ha hj hvw hvc hvx
  generalize fs.set 48 (.int (nI 0)) = fs1 at hbd1 hu1 hh1 hw1 hl1 ha1 hlen1
  generalize ws.set jm (am, .inr (9, fs1)) = ws1 at hbd1 hu1 hh1 hw1 hl1 ha1
  refine y_aln hC (E 3 _ rfl) rfl ?_
  refine y_iln hC (E 4 _ rfl) rfl ?_
  refine y_virq hok hC (E 5 _ rfl) (by decide) (As := [.int w]) (rv := []) (by rw [htt]; exact h_m_iswalker hok hcl hbd1 hu1 w) hbd1.1 rfl rfl (dp 2 (by decide)) hn h_cat0 ?_
  have bad : Y X 0 30 [some (.ref am), some (.int w), some (.int to), some (.int what), none] [] ws1 ts := by
    refine y_ic hC (E 16 _ rfl) ?_
    exact y_ir hC hQ (E 17 _ rfl) hn (ret _ _ _)
  refine y_if hC (E 6 _ rfl) (fun _ => bad) (fun h => ?_)
  rcases h_nI01 (h_in_lt w (nI 0) (fu b - nI 1)) with ⟨g, _⟩ | ⟨_, hwi⟩
  · exact absurd g h
  obtain ⟨wk, hwk, rfl⟩ := h_walker hub.2 hub.1 hwi
  refine y_aln hC (E 7 _ rfl) rfl ?_
  refine y_iln hC (E 8 _ rfl) rfl ?_
  refine y_virq hok hC (E 9 _ rfl) (by decide) (As := [.int to]) (rv := []) (by rw [htt]; exact h_m_isfree hok hcl hbd1 hh1 to) hbd1.1 rfl rfl (dp 3 (by decide)) hn h_cat0 ?_
  refine y_if hC (E 10 _ rfl) (fun _ => bad) (fun _ => ?_)
  refine y_iln hC (E 11 _ rfl) rfl ?_
  refine y_ic hC (E 12 _ rfl) ?_
  refine y_ic hC (E 13 _ rfl) ?_
  refine y_stap hok hC (E 14 _ rfl) (by decide) (by decide) (av := [.int what, .int (nI 0), .int (nI 1)]) (rv := []) (by rw [htt]; exact h_m_in hok what (nI 0) (nI 1)) rfl rfl (dp 1 (by decide)) hn h_cat0 ?_
  refine y_if hC (E 15 _ rfl) (fun _ => ?_) (fun _ => bad)
  refine y_ic hC (E 18 _ rfl) ?_
  refine y_is hC (E 19 _ rfl) ?_
  have tail : ∀ (w9 : Nat → Int32), (∀ k, k < N → w9 k = nI 1 ∨ w9 k = nI 101) → Y X 0 88 [some (.ref am), some (.int (nI wk)), some (.int to), some (.int what), some (.int (nI N))] [] (ws1.set jw (aw, .inl (cW, 25, .inl w9))) ts := by
    intro w9 hw9
    have hbd2 := hbd1.set (e := (aw, .inl (cW, 25, .inl w9))) w3 (by decide) (by decide) (by decide)
    have hh2 := hh1.set (e := (aw, .inl (cW, 25, .inl w9))) w3 (by decide)
    have hl2 := hl1.set (e := (aw, .inl (cW, 25, .inl w9))) w3 (by decide)
    have ha2 := ha1.set (e := (aw, .inl (cW, 25, .inl w9))) w3 (by decide)
    have hw2 := hw1.self w9
    clear hbd1 hu1 hh1 hw1 hl1 ha1 bad
    generalize ws1.set jw (aw, .inl (cW, 25, .inl w9)) = ws2 at hbd2 hh2 hl2 ha2 hw2
    refine y_ty (fun tys2 hW2 hD2 => ?_)
    rw [htt] at hW2
    obtain ⟨hl9, ht9⟩ := h_objt hW2 hbd2.1 hbd2.2.1
    refine y_aln hC (E 48 _ rfl) rfl ?_
    refine y_iln hC (E 49 _ rfl) rfl ?_
    refine y_aln hC (E 50 _ rfl) rfl ?_
    refine y_get hcl hC (E 51 _ rfl) hbd2.1 hh2.1 ?_
    refine y_aln hC (E 52 _ rfl) rfl ?_
    refine y_get hcl hC (E 53 _ rfl) hbd2.1 hbd2.2.2.1 ?_
    refine y_ald hC (E 54 _ rfl) hh2.2.1 hh2.2.2 (by rw [htt]; rfl) hb2 (by decide) ?_
    refine y_vir hok hC (E 55 _ rfl) (by decide) (As := [.int to, .int (fh b)]) (rv := []) (dd := (3, 0)) (by rw [htt]; exact h_m_lay hok hcl hbd2 hl9 ht9 hNe hN hne to (fh b)) hbd2.1 rfl rfl (dp 4 (by decide)) hn h_cat0 (by rw [hkw]; exact h_wsub (fun e he => by rcases List.mem_singleton.mp he with rfl; decide)) (fun v ws' ts' _ hp => ?_)
    obtain ⟨rfl, rfl, jf, af, cA, f, jw', aw', cW', w', rfl, p1, ⟨f0, p2⟩, p3, p4, p5, p6, hinv, hall⟩ := hp
    have ew : jw' = jw ∧ aw' = aw ∧ cW' = cW ∧ w' = w9 := by
      have e1 : aw' = aw := by
        have := p4.symm.trans hw2.1
        cases this
        rfl
      subst e1
      obtain ⟨e2, e3⟩ := h_same hD2 p5 hw2.2.1
      cases e3
      exact ⟨e2, rfl, rfl, rfl⟩
    obtain ⟨rfl, rfl, rfl, rfl⟩ := ew
    have hfr : h_row (h_wf ws2 jf af cA f) ts' fs1 45 68 25 jf af cA f := ⟨p1, List.getElem?_set_self (List.getElem?_eq_some_iff.mp p2).1, p3⟩
    have hbd3 : h_bd (h_wf ws2 jf af cA f) ts' jm am fs1 b fc fr := hbd2.set p3 (by decide) (by decide) (by decide)
    have hh3 : h_row (h_wf ws2 jf af cA f) ts' fs1 15 45 2 jh ah cH fh := hh2.set p3 (by decide)
    have hl3 : h_row (h_wf ws2 jf af cA f) ts' fs1 47 70 26 jl aL cL q0 := hl2.set p3 (by decide)
    have ha3 : h_row (h_wf ws2 jf af cA f) ts' fs1 41 66 438 ja aa cB al := ha2.set p3 (by decide)
    have hw3 : h_row (h_wf ws2 jf af cA f) ts' fs1 46 69 25 jw' aw' cW' w' := hw2.set p3 (by decide)
    clear hbd2 hh2 hl2 ha2 hw2 p1 p2 p4 p5
    generalize h_wf ws2 jf af cA f = ws3 at hfr hbd3 hh3 hl3 ha3 hw3
    show Y X 0 102 [some (.ref am), some (.int (nI wk)), some (.int to), some (.int what), some (.int (nI N))] [] ws3 ts'
    obtain ⟨c0, m1, m2, m3⟩ := z_nat (x := al wk) (hal wk hwk)
    have hc0 : c0 < N := by
      have := hpos wk hwk
      omega
    refine y_aln hC (E 56 _ rfl) rfl ?_
    refine y_get hcl hC (E 57 _ rfl) hbd3.1 hfr.1 ?_
    refine y_aln hC (E 58 _ rfl) rfl ?_
    refine y_get hcl hC (E 59 _ rfl) hbd3.1 ha3.1 ?_
    refine y_ic hC (E 60 _ rfl) ?_
    refine y_iln hC (E 61 _ rfl) rfl ?_
    refine y_add hC (E 62 _ rfl) ?_
    rw [nI_add, Nat.zero_add]
    refine y_ald hC (E 63 _ rfl) ha3.2.1 ha3.2.2 (by rw [htt]; rfl) (show wk < 438 by omega) (by decide) ?_
    rw [m2]
    refine y_ald hC (E 64 _ rfl) hfr.2.1 hfr.2.2 (by rw [htt]; rfl) (show c0 < 25 by omega) (by decide) ?_
    refine y_is hC (E 65 _ rfl) ?_
    refine y_il hC (E 66 _ rfl) rfl ?_
    refine y_sp hC (E 67 _ rfl) ?_
    refine y_cmp hC (E 68 _ rfl) (fun h => ?_) (fun _ => ?_)
    · have h : ¬ f c0 = nI 10000 := h
      have hf0 : q_qb (f c0) < 2147493648 := by
        have g1 := (hinv.2 c0 hc0).1
        have g2 : ¬ q_qb (f c0) = 2147493648 := fun e => h (by rw [q_eq_iff, z_qnI (by decide)]; exact e)
        omega
      have hwb : ∀ k, k < N → 2147483649 ≤ q_qb (w' k) ∧ q_qb (w' k) ≤ 2147483749 := by
        intro k hk
        rcases hw9 k hk with h | h
        · rw [h, z_qnI (by decide)]
          decide
        · rw [h, z_qnI (by decide)]
          decide
      refine y_aln hC (E 71 _ rfl) rfl ?_
      refine y_aln hC (E 72 _ rfl) rfl ?_
      refine y_get hcl hC (E 73 _ rfl) hbd3.1 ha3.1 ?_
      refine y_ic hC (E 74 _ rfl) ?_
      refine y_iln hC (E 75 _ rfl) rfl ?_
      refine y_add hC (E 76 _ rfl) ?_
      rw [nI_add, Nat.zero_add]
      refine y_ald hC (E 77 _ rfl) ha3.2.1 ha3.2.2 (by rw [htt]; rfl) (show wk < 438 by omega) (by decide) ?_
      rw [m2]
      refine y_iln hC (E 78 _ rfl) rfl ?_
      refine y_vir hok hC (E 79 _ rfl) (by decide) (As := [.int (nI c0), .int to]) (rv := []) (dd := (3, 0)) (by rw [htt]; exact h_m_show hok hcl hbd3 hlen1 hfr hw3 hl3 hh3 hwb hN hne hinv hall hc0 hf0) hbd3.1 rfl rfl (dp 4 (by decide)) hn h_cat0 (by rw [hkw]; exact h_wsub (fun e he => by
        rcases List.mem_cons.mp he with rfl | he
        · decide
        · rcases List.mem_singleton.mp he with rfl
          decide)) (fun v ws' ts' _ hp => ?_)
      obtain ⟨rfl, rfl, q, r, -, -, rfl⟩ := hp
      show Y X 0 140 [some (.ref am), some (.int (nI wk)), some (.int to), some (.int what), some (.int (f c0))] [] _ ts'
      refine y_iln hC (E 80 _ rfl) rfl ?_
      refine y_if hC (E 81 _ rfl) (fun _ => ?_) (fun _ => ?_)
      · refine y_il hC (E 86 _ rfl) rfl ?_
        refine y_bp hC (E 87 _ rfl) ?_
        refine y_rem hC (E 88 _ rfl) (by decide) ?_
        exact y_ir hC hQ (E 89 _ rfl) hn (ret _ _ _)
      · refine y_il hC (E 82 _ rfl) rfl ?_
        refine y_bp hC (E 83 _ rfl) ?_
        refine y_div hC (E 84 _ rfl) (by decide) ?_
        refine y_go hC (E 85 _ rfl) ?_
        exact y_ir hC hQ (E 89 _ rfl) hn (ret _ _ _)
    · refine y_ic hC (E 69 _ rfl) ?_
      exact y_ir hC hQ (E 70 _ rfl) hn (ret _ _ _)
  have loop : ∀ (m d : Nat) (w9 : Nat → Int32), N - d = m → d ≤ N → (∀ k, k < d → w9 k = nI 1 ∨ w9 k = nI 101) → Y X 0 35 [some (.ref am), some (.int (nI wk)), some (.int to), some (.int what), some (.int (nI d))] [] (ws1.set jw (aw, .inl (cW, 25, .inl w9))) ts := by
    intro m
    induction m with
    | zero =>
      intro d w9 hm hd hk
      have e : d = N := by omega
      subst e
      have hbd2 := hbd1.set (e := (aw, .inl (cW, 25, .inl w9))) w3 (by decide) (by decide) (by decide)
      refine y_il hC (E 20 _ rfl) rfl ?_
      refine y_aln hC (E 21 _ rfl) rfl ?_
      refine y_virp hok hC (E 22 _ rfl) (by decide) (As := []) (rv := [.int (nI d)]) (by rw [htt]; exact h_m_cells hok hcl hbd2) hbd2.1 rfl rfl (dp 1 (by decide)) hn h_cat1 ?_
      rw [hNe]
      refine y_cmp hC (E 23 _ rfl) (fun _ => tail w9 hk) (fun h => ?_)
      exact absurd h (nI_nlt (Nat.le_refl _) (by omega))
    | succ m IH =>
      intro d w9 hm hd hk
      have hlt : d < N := by omega
      have hbd2 := hbd1.set (e := (aw, .inl (cW, 25, .inl w9))) w3 (by decide) (by decide) (by decide)
      have ha2 := ha1.set (e := (aw, .inl (cW, 25, .inl w9))) w3 (by decide)
      have hw2 := hw1.self w9
      have store : ∀ v : Int32, v = nI 1 ∨ v = nI 101 → Y X 0 81 [some (.ref am), some (.int (nI wk)), some (.int to), some (.int what), some (.int (nI d))] [.int v, .int (nI d), .ref aw] (ws1.set jw (aw, .inl (cW, 25, .inl w9))) ts := by
        intro v hv
        refine y_ast hC (E 45 _ rfl) hw2.2.1 hw2.2.2 (by rw [htt]; rfl) (show d < 25 by omega) (by decide) ?_ (by rw [hkw]; exact h_wrm (lo := 2147483648) (hi := 2147483672) (by decide) (by omega) (by omega)) ?_
        · rw [htt]
          show (z_el [(25, 2147483648, 2147483749)] (d % 25)).1 ≤ _ ∧ _ ≤ (z_el [(25, 2147483648, 2147483749)] (d % 25)).2
          rw [h_el25 d (by decide)]
          rcases hv with h | h
          · rw [h, z_qnI (by decide)]; decide
          · rw [h, z_qnI (by decide)]; decide
        rw [List.set_set]
        refine y_ii hC (E 46 _ rfl) rfl ?_
        refine y_go hC (E 47 _ rfl) ?_
        have := IH (d + 1) (upd w9 d v) (by omega) (by omega) (fun k hk2 => by
          by_cases ek : k = d
          · subst ek
            rw [pk_us]
            exact hv
          · rw [pk_un ek]
            exact hk k (by omega))
        rw [nI_succ] at this
        exact this
      refine y_il hC (E 20 _ rfl) rfl ?_
      refine y_aln hC (E 21 _ rfl) rfl ?_
      refine y_virp hok hC (E 22 _ rfl) (by decide) (As := []) (rv := [.int (nI d)]) (by rw [htt]; exact h_m_cells hok hcl hbd2) hbd2.1 rfl rfl (dp 1 (by decide)) hn h_cat1 ?_
      rw [hNe]
      refine y_cmp hC (E 23 _ rfl) (fun h => absurd h (nI_ge hlt (by omega))) (fun _ => ?_)
      refine y_aln hC (E 24 _ rfl) rfl ?_
      refine y_get hcl hC (E 25 _ rfl) hbd2.1 hw2.1 ?_
      refine y_il hC (E 26 _ rfl) rfl ?_
      refine y_aln hC (E 27 _ rfl) rfl ?_
      refine y_get hcl hC (E 28 _ rfl) hbd2.1 ha2.1 ?_
      refine y_ic hC (E 29 _ rfl) ?_
      refine y_il hC (E 30 _ rfl) rfl ?_
      refine y_add hC (E 31 _ rfl) ?_
      rw [nI_add]
      refine y_ald hC (E 32 _ rfl) ha2.2.1 ha2.2.2 (by rw [htt]; rfl) (show 5 + d < 438 by omega) (by decide) ?_
      have big : Y X 0 79 [some (.ref am), some (.int (nI wk)), some (.int to), some (.int what), some (.int (nI d))] [.int (nI d), .ref aw] (ws1.set jw (aw, .inl (cW, 25, .inl w9))) ts := by
        refine y_bp hC (E 44 _ rfl) ?_
        exact store _ (Or.inr rfl)
      refine y_if hC (E 33 _ rfl) (fun _ => big) (fun _ => ?_)
      refine y_aln hC (E 34 _ rfl) rfl ?_
      refine y_get hcl hC (E 35 _ rfl) hbd2.1 ha2.1 ?_
      refine y_ic hC (E 36 _ rfl) ?_
      refine y_il hC (E 37 _ rfl) rfl ?_
      refine y_add hC (E 38 _ rfl) ?_
      rw [nI_add]
      refine y_ald hC (E 39 _ rfl) ha2.2.1 ha2.2.2 (by rw [htt]; rfl) (show 5 + d < 438 by omega) (by decide) ?_
      refine y_iln hC (E 40 _ rfl) rfl ?_
      refine y_cmp hC (E 41 _ rfl) (fun _ => big) (fun _ => ?_)
      refine y_ic hC (E 42 _ rfl) ?_
      refine y_go hC (E 43 _ rfl) ?_
      exact store _ (Or.inl rfl)
  have := loop (N - 0) 0 w0 rfl (Nat.zero_le _) (fun k hk => absurd hk (Nat.not_lt_zero _))
  have e0 : ws1.set jw (aw, .inl (cW, 25, .inl w0)) = ws1 := by
    refine List.ext_getElem? (fun k => ?_)
    by_cases ek : jw = k
    · subst ek
      rw [List.getElem?_set_self (List.getElem?_eq_some_iff.mp hw1.2.1).1, hw1.2.1]
    · rw [List.getElem?_set_ne ek]
  rw [e0] at this
  exact this
end HY
