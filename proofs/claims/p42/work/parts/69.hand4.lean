/-! ===== by hand: layFar's passes ===== -/
def h_K (cl : Int32) (c : Nat) : Bool := decide (h_has cl (nI c) = 1)
def h_S (q : Int32) (c d : Nat) : Bool := decide (h_steps q (nI c) (nI d) = nI 1)
/-- within a pass: f0 before it, f now -/
def h_ps (w f0 f : Nat → Int32) (K : Nat → Bool) (S : Nat → Nat → Bool) (N : Nat) (to : Int32) (more c d : Nat) : Prop := h_inv w f K S N to ∧ more < 2 ∧ (more = 0 → f = f0 ∧ (∀ c' d', c' < c → d' < N → h_ok w f0 K S c' d') ∧ ∀ d', d' < d → h_ok w f0 K S c d') ∧ (more = 1 → h_sum f 25 < h_sum f0 25)
theorem h_qsum {x y : Int32} (h1 : 2147483648 ≤ q_qb x) (h2 : q_qb x ≤ 2147503648) (h3 : 2147483648 ≤ q_qb y) (h4 : q_qb y ≤ 2147483749) : q_qb (x + y) + 2147483648 = q_qb x + q_qb y := z_qadd (by omega) (by omega)
/-- a relaxation -/
theorem h_inv_upd {w f : Nat → Int32} {K : Nat → Bool} {S : Nat → Nat → Bool} {N c d : Nat} {to : Int32} (hwb : ∀ k, k < 25 → 2147483648 ≤ q_qb (w k) ∧ q_qb (w k) ≤ 2147483749) (hN : N ≤ 25) (h : h_inv w f K S N to) (hc : c < N) (hd : d < N) (hKc : K c = false) (hKd : K d = false) (hS : S c d = true) (hlt : q_qb (f d + w d) < q_qb (f c)) : h_inv w (upd f c (f d + w d)) K S N to ∧ h_sum (upd f c (f d + w d)) 25 < h_sum f 25 := by
  obtain ⟨h1, h2⟩ := h
  have bd := h1 d (by omega)
  have bc := h1 c (by omega)
  have wd := hwb d (by omega)
  have es := h_qsum bd.1 bd.2 wd.1 wd.2
  have hdc : ¬ d = c := fun e => by
    subst e
    omega
  have low : ∀ k, q_qb (upd f c (f d + w d) k) ≤ q_qb (f k) := fun k => by
    by_cases ek : k = c
    · subst ek
      rw [pk_us]
      omega
    · rw [pk_un ek]
      exact Nat.le_refl _
  have bnd : ∀ k, k < 25 → 2147483648 ≤ q_qb (upd f c (f d + w d) k) ∧ q_qb (upd f c (f d + w d) k) ≤ 2147503648 := fun k hk => by
    by_cases ek : k = c
    · subst ek
      rw [pk_us]
      omega
    · rw [pk_un ek]
      exact h1 k hk
  refine ⟨⟨bnd, fun k hk => ?_⟩, ?_⟩
  · obtain ⟨g1, g2, g3⟩ := h2 k hk
    refine ⟨Nat.le_trans (low k) g1, fun e => ?_, fun e1 e2 => ?_⟩
    · have g4 := g2 e
      by_cases ek : k = c
      · subst ek
        rw [g4, z_qnI (by omega)] at hlt
        omega
      · rw [pk_un ek]
        exact g4
    · by_cases ek : k = c
      · subst ek
        refine ⟨hKc, d, hd, hKd, hS, ?_⟩
        rw [pk_us, pk_un hdc]
        exact Nat.le_refl _
      · rw [pk_un ek] at e2
        obtain ⟨p1, e, p2, p3, p4, p5⟩ := g3 e1 e2
        refine ⟨p1, e, p2, p3, p4, ?_⟩
        rw [pk_un ek]
        have b1 := h1 e (by omega)
        have b2 := bnd e (by omega)
        have b3 := hwb e (by omega)
        have s1 := h_qsum b1.1 b1.2 b3.1 b3.2
        have s2 := h_qsum b2.1 b2.2 b3.1 b3.2
        have := low e
        omega
  · have := h_sum_upd (f := f) (c := c) (v := f d + w d) (k := 25) (by omega)
    omega
section HL
variable {X : y_X} {n : Nat} {ws : va_W} {ts : List Nat} {jm am b jf af jw aw N : Nat} {fs : List Value} {fc fr w : Nat → Int32} {cA cW : ClassId} {to cl : Int32}
theorem h_lf_inner (hok : ∀ i, i < q_nM → q_mok i) (hcl : q_clok) (hF : h_lf X n ws ts jm am b jf af jw aw N fs fc fr w cA cW) {f0 : Nat → Int32} {c : Nat} (hc : c < N) (hKc : h_K cl c = false) (kk : ∀ (f : Nat → Int32) (more : Nat) (o5 : Option Value), h_ps w f0 f (h_K cl) (h_S (fc b)) N to more (c + 1) 0 → Y X n 45 [some (.ref am), some (.int to), some (.int cl), some (.int (nI more)), some (.int (nI (c + 1))), o5] [] (h_wf ws jf af cA f) ts) : ∀ (m d : Nat) (f : Nat → Int32) (more : Nat), N - d = m → d ≤ N → h_ps w f0 f (h_K cl) (h_S (fc b)) N to more c d → Y X n 69 [some (.ref am), some (.int to), some (.int cl), some (.int (nI more)), some (.int (nI c)), some (.int (nI d))] [] (h_wf ws jf af cA f) ts := by
  obtain ⟨hC, htt, hi, hd1, hn, hkw, hbd, hfar, ⟨f9, hjf⟩, htf, hwt, hjw, htw, hwb, hNe, hN, hne⟩ := hF
  have E := y_Ei hok hi (by decide) (cd := q_cd6) rfl
  intro m
  induction m with
  | zero =>
    intro d f more hm hd hp
    have e : d = N := by omega
    subst e
    have hb2 : h_bd (h_wf ws jf af cA f) ts jm am fs b fc fr := hbd.set htf (by decide) (by decide) (by decide)
    refine y_il hC (E 37 _ rfl) rfl ?_
    refine y_aln hC (E 38 _ rfl) rfl ?_
    refine y_virp hok hC (E 39 _ rfl) (by decide) (As := []) (rv := [.int (nI d)]) (by rw [htt]; exact h_m_cells hok hcl hb2) hb2.1 rfl rfl hd1 hn h_cat1 ?_
    rw [hNe]
    refine y_cmp hC (E 40 _ rfl) (fun h => ?_) (fun h => ?_)
    · refine y_ii hC (E 83 _ rfl) rfl ?_
      refine y_go hC (E 84 _ rfl) ?_
      have := kk f more (some (.int (nI d))) ⟨hp.1, hp.2.1, fun h0 => ⟨(hp.2.2.1 h0).1, fun c' d' h1 h2 => by
        by_cases ec : c' = c
        · subst ec
          exact (hp.2.2.1 h0).2.2 d' h2
        · exact (hp.2.2.1 h0).2.1 c' d' (by omega) h2, fun d' h1 => absurd h1 (Nat.not_lt_zero _)⟩, hp.2.2.2⟩
      rw [nI_succ] at this
      exact this
    · exact absurd h (nI_nlt (Nat.le_refl _) (by omega))
  | succ m IH =>
    intro d f more hm hd hp
    have hlt : d < N := by omega
    have hb2 : h_bd (h_wf ws jf af cA f) ts jm am fs b fc fr := hbd.set htf (by decide) (by decide) (by decide)
    have hj2 : (h_wf ws jf af cA f)[jf]? = some (af, .inl (cA, 25, .inl f)) := List.getElem?_set_self (List.getElem?_eq_some_iff.mp hjf).1
    have hw2 : (h_wf ws jf af cA f)[jw]? = some (aw, .inl (cW, 25, .inl w)) := h_getset hjw (h_tne htf htw (by decide))
    have ht68 : (y_tt X 68).1 = 1 := by rw [htt]; rfl
    have ht69 : (y_tt X 69).1 = 1 := by rw [htt]; rfl
    have next : ∀ (g : Nat → Int32) (more' : Nat), h_ps w f0 g (h_K cl) (h_S (fc b)) N to more' c (d + 1) → Y X n 151 [some (.ref am), some (.int to), some (.int cl), some (.int (nI more')), some (.int (nI c)), some (.int (nI d))] [] (h_wf ws jf af cA g) ts := by
      intro g more' hg
      refine y_ii hC (E 81 _ rfl) rfl ?_
      refine y_go hC (E 82 _ rfl) ?_
      have := IH (d + 1) g more' (by omega) (by omega) hg
      rw [nI_succ] at this
      exact this
    have skip : h_ok w f (h_K cl) (h_S (fc b)) c d → h_ps w f0 f (h_K cl) (h_S (fc b)) N to more c (d + 1) := fun ho => ⟨hp.1, hp.2.1, fun h0 => ⟨(hp.2.2.1 h0).1, (hp.2.2.1 h0).2.1, fun d' h1 => by
      by_cases ed : d' = d
      · subst ed
        rw [← (hp.2.2.1 h0).1]
        exact ho
      · exact (hp.2.2.1 h0).2.2 d' (by omega)⟩, hp.2.2.2⟩
    refine y_il hC (E 37 _ rfl) rfl ?_
    refine y_aln hC (E 38 _ rfl) rfl ?_
    refine y_virp hok hC (E 39 _ rfl) (by decide) (As := []) (rv := [.int (nI d)]) (by rw [htt]; exact h_m_cells hok hcl hb2) hb2.1 rfl rfl hd1 hn h_cat1 ?_
    rw [hNe]
    refine y_cmp hC (E 40 _ rfl) (fun h => ?_) (fun _ => ?_)
    · exact absurd h (nI_ge hlt (by omega))
    refine y_iln hC (E 41 _ rfl) rfl ?_
    refine y_il hC (E 42 _ rfl) rfl ?_
    refine y_stap hok hC (E 43 _ rfl) (by decide) (by decide) (av := [.int cl, .int (nI d)]) (rv := []) (by rw [htt]; exact h_m_has hok cl (nI d)) rfl rfl hd1 hn h_cat0 ?_
    refine y_if hC (E 44 _ rfl) (fun h => ?_) (fun h => ?_)
    · refine next f more (skip (fun _ hk _ => ?_))
      have h : ¬ nI (h_has cl (nI d)) = 0 := h
      have hk : decide (h_has cl (nI d) = 1) = false := hk
      have := h_has_lt cl (nI d)
      have e0 : h_has cl (nI d) = 0 := by
        have := of_decide_eq_false hk
        omega
      rw [e0] at h
      exact absurd nI_0 h
    have hKd : h_K cl d = false := by
      have h : nI (h_has cl (nI d)) = 0 := h
      have := h_has_lt cl (nI d)
      refine decide_eq_false (fun e1 => ?_)
      rw [e1] at h
      exact absurd h (by decide)
    refine y_aln hC (E 45 _ rfl) rfl ?_
    refine y_il hC (E 46 _ rfl) rfl ?_
    refine y_il hC (E 47 _ rfl) rfl ?_
    refine y_virp hok hC (E 48 _ rfl) (by decide) (As := [.int (nI c), .int (nI d)]) (rv := []) (by rw [htt]; exact h_m_steps hok hcl hb2 hne (nI c) (nI d)) hb2.1 rfl rfl hd1 hn h_cat0 ?_
    refine y_ic hC (E 49 _ rfl) ?_
    refine y_cmp hC (E 50 _ rfl) (fun h => ?_) (fun h => ?_)
    · refine next f more (skip (fun _ _ hs => ?_))
      exact absurd (of_decide_eq_true hs) h
    have hS : h_S (fc b) c d = true := decide_eq_true h
    refine y_aln hC (E 51 _ rfl) rfl ?_
    refine y_get hcl hC (E 52 _ rfl) hb2.1 hfar ?_
    refine y_il hC (E 53 _ rfl) rfl ?_
    refine y_ald hC (E 54 _ rfl) hj2 htf ht68 (show d < 25 by omega) (by decide) ?_
    refine y_aln hC (E 55 _ rfl) rfl ?_
    refine y_get hcl hC (E 56 _ rfl) hb2.1 hwt ?_
    refine y_il hC (E 57 _ rfl) rfl ?_
    refine y_ald hC (E 58 _ rfl) hw2 htw ht69 (show d < 25 by omega) (by decide) ?_
    refine y_add hC (E 59 _ rfl) ?_
    refine y_aln hC (E 60 _ rfl) rfl ?_
    refine y_get hcl hC (E 61 _ rfl) hb2.1 hfar ?_
    refine y_il hC (E 62 _ rfl) rfl ?_
    refine y_ald hC (E 63 _ rfl) hj2 htf ht68 (show c < 25 by omega) (by decide) ?_
    refine y_cmp hC (E 64 _ rfl) (fun h => ?_) (fun h => ?_)
    · have h : q_qb (f d + w d) < q_qb (f c) := (q_lt_iff _ _).mp h
      obtain ⟨hi2, hs2⟩ := h_inv_upd hwb hN hp.1 hc hlt hKc hKd hS h
      refine y_aln hC (E 66 _ rfl) rfl ?_
      refine y_get hcl hC (E 67 _ rfl) hb2.1 hfar ?_
      refine y_il hC (E 68 _ rfl) rfl ?_
      refine y_aln hC (E 69 _ rfl) rfl ?_
      refine y_get hcl hC (E 70 _ rfl) hb2.1 hfar ?_
      refine y_il hC (E 71 _ rfl) rfl ?_
      refine y_ald hC (E 72 _ rfl) hj2 htf ht68 (show d < 25 by omega) (by decide) ?_
      refine y_aln hC (E 73 _ rfl) rfl ?_
      refine y_get hcl hC (E 74 _ rfl) hb2.1 hwt ?_
      refine y_il hC (E 75 _ rfl) rfl ?_
      refine y_ald hC (E 76 _ rfl) hw2 htw ht69 (show d < 25 by omega) (by decide) ?_
      refine y_add hC (E 77 _ rfl) ?_
      refine y_ast hC (E 78 _ rfl) hj2 htf ht68 (show c < 25 by omega) (by decide) ?_ (hkw c (by omega)) ?_
      · rw [htt]
        show (z_el [(25, 2147483648, 2147503648)] (c % 25)).1 ≤ _ ∧ _ ≤ (z_el [(25, 2147483648, 2147503648)] (c % 25)).2
        rw [h_el25 c (by omega)]
        have := hi2.1 c (by omega)
        rw [pk_us] at this
        exact this
      · have ew : (h_wf ws jf af cA f).set jf (af, .inl (cA, 25, .inl (upd f c (f d + w d)))) = h_wf ws jf af cA (upd f c (f d + w d)) := List.set_set _
        rw [ew]
        refine y_ic hC (E 79 _ rfl) ?_
        refine y_isn hC (E 80 _ rfl) ?_
        refine next (upd f c (f d + w d)) 1 ⟨hi2, by decide, fun h0 => absurd h0 (by decide), fun _ => ?_⟩
        rcases Nat.eq_zero_or_pos more with h0 | h0
        · rw [← (hp.2.2.1 h0).1]
          exact hs2
        · have := hp.2.2.2 (by have := hp.2.1; omega)
          omega
    · have h : q_qb (f c) ≤ q_qb (f d + w d) := (q_le_iff _ _).mp h
      refine y_go hC (E 65 _ rfl) ?_
      exact next f more (skip (fun _ _ _ => h))
theorem h_lf_mid (hok : ∀ i, i < q_nM → q_mok i) (hcl : q_clok) (hF : h_lf X n ws ts jm am b jf af jw aw N fs fc fr w cA cW) {f0 : Nat → Int32} (kk : ∀ (f : Nat → Int32) (more : Nat) (o4 o5 : Option Value), h_ps w f0 f (h_K cl) (h_S (fc b)) N to more N 0 → Y X n 36 [some (.ref am), some (.int to), some (.int cl), some (.int (nI more)), o4, o5] [] (h_wf ws jf af cA f) ts) : ∀ (m c : Nat) (f : Nat → Int32) (more : Nat) (o5 : Option Value), N - c = m → c ≤ N → h_ps w f0 f (h_K cl) (h_S (fc b)) N to more c 0 → Y X n 45 [some (.ref am), some (.int to), some (.int cl), some (.int (nI more)), some (.int (nI c)), o5] [] (h_wf ws jf af cA f) ts := by
  have hF2 := hF
  obtain ⟨hC, htt, hi, hd1, hn, hkw, hbd, hfar, ⟨f9, hjf⟩, htf, hwt, hjw, htw, hwb, hNe, hN, hne⟩ := hF
  have E := y_Ei hok hi (by decide) (cd := q_cd6) rfl
  intro m
  induction m with
  | zero =>
    intro c f more o5 hm hc hp
    have e : c = N := by omega
    subst e
    have hb2 : h_bd (h_wf ws jf af cA f) ts jm am fs b fc fr := hbd.set htf (by decide) (by decide) (by decide)
    refine y_il hC (E 26 _ rfl) rfl ?_
    refine y_aln hC (E 27 _ rfl) rfl ?_
    refine y_virp hok hC (E 28 _ rfl) (by decide) (As := []) (rv := [.int (nI c)]) (by rw [htt]; exact h_m_cells hok hcl hb2) hb2.1 rfl rfl hd1 hn h_cat1 ?_
    rw [hNe]
    refine y_cmp hC (E 29 _ rfl) (fun h => ?_) (fun h => ?_)
    · refine y_go hC (E 85 _ rfl) ?_
      exact kk f more _ _ hp
    · exact absurd h (nI_nlt (Nat.le_refl _) (by omega))
  | succ m IH =>
    intro c f more o5 hm hc hp
    have hlt : c < N := by omega
    have hb2 : h_bd (h_wf ws jf af cA f) ts jm am fs b fc fr := hbd.set htf (by decide) (by decide) (by decide)
    refine y_il hC (E 26 _ rfl) rfl ?_
    refine y_aln hC (E 27 _ rfl) rfl ?_
    refine y_virp hok hC (E 28 _ rfl) (by decide) (As := []) (rv := [.int (nI c)]) (by rw [htt]; exact h_m_cells hok hcl hb2) hb2.1 rfl rfl hd1 hn h_cat1 ?_
    rw [hNe]
    refine y_cmp hC (E 29 _ rfl) (fun h => ?_) (fun _ => ?_)
    · exact absurd h (nI_ge hlt (by omega))
    refine y_iln hC (E 30 _ rfl) rfl ?_
    refine y_il hC (E 31 _ rfl) rfl ?_
    refine y_stap hok hC (E 32 _ rfl) (by decide) (by decide) (av := [.int cl, .int (nI c)]) (rv := []) (by rw [htt]; exact h_m_has hok cl (nI c)) rfl rfl hd1 hn h_cat0 ?_
    refine y_if hC (E 33 _ rfl) (fun h => ?_) (fun h => ?_)
    · have hKc : h_K cl c = false := by
        have h : nI (h_has cl (nI c)) = 0 := h
        have := h_has_lt cl (nI c)
        refine decide_eq_false (fun e1 => ?_)
        rw [e1] at h
        exact absurd h (by decide)
      refine y_ic hC (E 35 _ rfl) ?_
      refine y_is hC (E 36 _ rfl) ?_
      exact h_lf_inner hok hcl hF2 hlt hKc (fun f' more' o5' hp' => IH (c + 1) f' more' o5' (by omega) (by omega) hp') (N - 0) 0 f more rfl (Nat.zero_le _) hp
    · have hKc : h_K cl c = true := by
        have h : ¬ nI (h_has cl (nI c)) = 0 := h
        have := h_has_lt cl (nI c)
        refine decide_eq_true ?_
        rcases Nat.eq_zero_or_pos (h_has cl (nI c)) with e0 | e0
        · rw [e0] at h
          exact absurd nI_0 h
        · omega
      refine y_go hC (E 34 _ rfl) ?_
      refine y_ii hC (E 83 _ rfl) rfl ?_
      refine y_go hC (E 84 _ rfl) ?_
      have := IH (c + 1) f more o5 (by omega) (by omega) ⟨hp.1, hp.2.1, fun h0 => ⟨(hp.2.2.1 h0).1, fun c' d' h1 h2 => by
        by_cases ec : c' = c
        · subst ec
          intro k1
          rw [hKc] at k1
          cases k1
        · exact (hp.2.2.1 h0).2.1 c' d' (by omega) h2, fun d' h1 => absurd h1 (Nat.not_lt_zero _)⟩, hp.2.2.2⟩
      rw [nI_succ] at this
      exact this
theorem h_lf_out (hok : ∀ i, i < q_nM → q_mok i) (hcl : q_clok) (hF : h_lf X n ws ts jm am b jf af jw aw N fs fc fr w cA cW) (kk : ∀ (f : Nat → Int32) (L : List (Option Value)), h_inv w f (h_K cl) (h_S (fc b)) N to → (∀ c d, c < N → d < N → h_ok w f (h_K cl) (h_S (fc b)) c d) → Y X n 166 L [] (h_wf ws jf af cA f) ts) : ∀ (M : Nat) (f : Nat → Int32) (o4 o5 : Option Value), h_sum f 25 ≤ M → h_inv w f (h_K cl) (h_S (fc b)) N to → Y X n 36 [some (.ref am), some (.int to), some (.int cl), some (.int (nI 1)), o4, o5] [] (h_wf ws jf af cA f) ts := by
  have hF2 := hF
  obtain ⟨hC, htt, hi, -⟩ := hF
  have E := y_Ei hok hi (by decide) (cd := q_cd6) rfl
  intro M
  induction M with
  | zero =>
    intro f o4 o5 hM hf
    refine y_iln hC (E 20 _ rfl) rfl ?_
    refine y_if hC (E 21 _ rfl) (fun h => absurd (show nI 1 = 0 from h) (by decide)) (fun _ => ?_)
    refine y_ic hC (E 22 _ rfl) ?_
    refine y_isn hC (E 23 _ rfl) ?_
    refine y_ic hC (E 24 _ rfl) ?_
    refine y_is hC (E 25 _ rfl) ?_
    refine h_lf_mid hok hcl hF2 (f0 := f) (fun g more o4 o5 hp => ?_) (N - 0) 0 f 0 o5 rfl (Nat.zero_le _) ⟨hf, by decide, fun _ => ⟨rfl, fun c' d' h _ => absurd h (Nat.not_lt_zero _), fun d' h => absurd h (Nat.not_lt_zero _)⟩, fun h => absurd h (by decide)⟩
    rcases Nat.eq_zero_or_pos more with h0 | h0
    · subst h0
      refine y_iln hC (E 20 _ rfl) rfl ?_
      refine y_if hC (E 21 _ rfl) (fun _ => ?_) (fun h => absurd nI_0 h)
      obtain ⟨e, h1, -⟩ := hp.2.2.1 rfl
      rw [e]
      exact kk f _ hf (fun c d hc hd => h1 c d hc hd)
    · have := hp.2.2.2 (by have := hp.2.1; omega)
      omega
  | succ M IH =>
    intro f o4 o5 hM hf
    refine y_iln hC (E 20 _ rfl) rfl ?_
    refine y_if hC (E 21 _ rfl) (fun h => absurd (show nI 1 = 0 from h) (by decide)) (fun _ => ?_)
    refine y_ic hC (E 22 _ rfl) ?_
    refine y_isn hC (E 23 _ rfl) ?_
    refine y_ic hC (E 24 _ rfl) ?_
    refine y_is hC (E 25 _ rfl) ?_
    refine h_lf_mid hok hcl hF2 (f0 := f) (fun g more o4 o5 hp => ?_) (N - 0) 0 f 0 o5 rfl (Nat.zero_le _) ⟨hf, by decide, fun _ => ⟨rfl, fun c' d' h _ => absurd h (Nat.not_lt_zero _), fun d' h => absurd h (Nat.not_lt_zero _)⟩, fun h => absurd h (by decide)⟩
    rcases Nat.eq_zero_or_pos more with h0 | h0
    · subst h0
      refine y_iln hC (E 20 _ rfl) rfl ?_
      refine y_if hC (E 21 _ rfl) (fun _ => ?_) (fun h => absurd nI_0 h)
      obtain ⟨e, h1, -⟩ := hp.2.2.1 rfl
      rw [e]
      exact kk f _ hf (fun c d hc hd => h1 c d hc hd)
    · have h1 : more = 1 := by have := hp.2.1; omega
      subst h1
      have := hp.2.2.2 rfl
      exact IH g o4 o5 (by omega) hp.1
end HL
