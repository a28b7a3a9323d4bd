/-! ===== comes' contract ===== -/
section HV
variable {ws : va_W} {ts : List Nat} {tys : List (ClassId × FieldType)}
/-- the columns of the bank are 2 to 5 -/
theorem h_bank2 {A : Nat → Prop} (hD : va_D A ws) {jm am b na : Nat} {fs : List Value} {fc fr : Nat → Int32} {av bv : List Value} (hbd : h_bd ws ts jm am fs b fc fr) (hav : av[0]? = some (.ref am)) (hna : av.length = na) (hf : z_Pf ws ts (h_bf na b) av bv) : 2147483650 ≤ q_qb (fc b) ∧ q_qb (fc b) ≤ 2147483653 := by
  obtain ⟨a1, j1, e1, v1, p1, p2, p3, p4, a2, j2, e2, v2, q1, q2, q3, q4, a3, j3, e3, v3, s1, s2, s3, s4, -⟩ := hf
  obtain ⟨b1, b2, b3, b4, ⟨jc, ac, cA, c1, c2, c3⟩, -⟩ := hbd
  have hn0 : 0 < av.length := by
    rcases Nat.eq_zero_or_pos av.length with h | h
    · rw [List.length_eq_zero_iff.mp h] at hav
      cases hav
    · exact h
  have q1 : (av ++ [v1])[0]? = some (.ref a2) := q1
  rw [List.getElem?_append_left hn0, hav] at q1
  cases q1
  obtain ⟨rfl, rfl⟩ := h_same hD b1 q2
  have s1 : (av ++ [v1] ++ [v2])[na + 1]? = some (.ref a3) := s1
  rw [List.getElem?_append_right (by rw [List.length_append, hna]; exact Nat.le_refl _), List.length_append, hna] at s1
  have s1 : ([v2] : List Value)[na + 1 - (na + 1)]? = some (.ref a3) := s1
  rw [Nat.sub_self] at s1
  have s1 : v2 = .ref a3 := Option.some.inj s1
  subst s1
  have q3 : fs[11]? = some (.ref a3) := q3
  rw [c1] at q3
  cases q3
  obtain ⟨rfl, rfl⟩ := h_same hD c2 s2
  rw [show z_at (.inl (cA, 2, .inl fc)) b = some (.int (fc b)) from h_aat b4] at s3
  cases s3
  obtain ⟨xc, ex, u1, u2⟩ := h_tvi s4
  cases ex
  exact ⟨u1, u2⟩
/-- an object's field that is a row of booleans -/
theorem h_fz (hw : z_W z_tt ws tys ts) {fs : List Value} {T : List z_C} (hl : fs.length = T.length) (hf : ∀ k v, fs[k]? = some v → z_tv (q_ad ws) ts (z_nth T k) v) {k t u : Nat} (hk : k < T.length) (ht : z_nth T k = (1, t, u)) (h0 : (z_tt t).1 = 5) : ∃ (j a : Nat) (cA : ClassId) (f : Nat → Int32), h_row ws ts fs k t (z_tt t).2.1 j a cA f := by
  have hk2 : k < fs.length := by omega
  have hv := hf k _ (List.getElem?_eq_getElem hk2)
  rw [ht] at hv
  obtain ⟨j, a, e1, e2, e3⟩ := h_rt hv
  obtain ⟨e, he, hc⟩ := hw.cell e2 e3
  obtain ⟨cA, t2, f, rfl, -⟩ := hc.bools h0
  exact ⟨j, a, cA, f, by rw [List.getElem?_eq_getElem hk2, e1], he, e3⟩
end HV
section HD
variable {l : Launch} {base : Nat} {D : va_G} {sa : Nat → Nat} {J : va_W → List Nat → Prop}
theorem h_con_com (hok : ∀ i, i < q_nM → q_mok i) (hcl : q_clok) {b : Nat} (hb2 : b < 2) (hJ : ∀ ws ts ws' ts', J ws ts → z_Fr h_kcom ws ts ws' ts' → J ws' ts') (hJc : ∀ (ws : va_W) (ts : List Nat) (tys : List (ClassId × FieldType)), z_W z_tt ws tys ts → va_D (q_A base) ws → J ws ts → h_codeJ ws ts) (hA : z_Con l base D sa z_tt J (h_Mask b)) (hT : z_Con l base D sa z_tt J h_Mtwo) : z_Con l base D sa z_tt J (h_Mcom b) := by
  intro ws ts av bv ha hf hj
  obtain ⟨vm, rfl, hvm⟩ := h_ta1 ha
  obtain ⟨jm, am, rfl, hm1, hm2⟩ := h_rt hvm
  refine z_ofW (fun tys hw hD => ?_)
  obtain ⟨mid, hf1, hf2⟩ := h_pf_split (ps := h_bf 1 b) hf
  obtain ⟨fs, fc, fr, N, hbd, hlen, htv, hNe, hN, hne⟩ := h_bank hw hD hb2 hm1 hm2 rfl rfl hf1
  have hlen : fs.length = 68 := hlen
  have hcb := h_bank2 hD hbd rfl rfl hf1
  obtain ⟨jk, ak, cK, fk, k1, k2, k3, -⟩ := h_fa hw hlen htv (k := 29) (t := 61) (u := 0) (by decide) rfl rfl
  obtain ⟨ja, aa, cA, fa, a1, a2, a3, -⟩ := h_fa hw hlen htv (k := 23) (t := 55) (u := 0) (by decide) rfl rfl
  obtain ⟨jb, ab, cB, fb, b1, b2, b3, -⟩ := h_fa hw hlen htv (k := 24) (t := 56) (u := 0) (by decide) rfl rfl
  obtain ⟨jl, al, cL, fl, l1, l2, l3, -⟩ := h_fa hw hlen htv (k := 33) (t := 65) (u := 0) (by decide) rfl rfl
  obtain ⟨jn, an, cN, fn, n1, n2, n3, -⟩ := h_fa hw hlen htv (k := 30) (t := 62) (u := 0) (by decide) rfl rfl
  obtain ⟨jt, at9, cT, ft, ht⟩ := h_fz hw hlen htv (k := 25) (t := 57) (u := 0) (by decide) rfl rfl
  have ht : h_row ws ts fs 25 57 2 jt at9 cT ft := ht
  have hft : ft b = nI 1 := by
    obtain ⟨c1, j1, e1, v1, p1, p2, p3, p4, c2, j2, e2, v2, q1, q2, q3, q4, -⟩ := hf2
    obtain ⟨hpre, hml⟩ := hf1.pre
    have hml : mid.length = 4 := hml
    have p1 : mid[0]? = some (.ref c1) := p1
    rw [z_gm hpre (show ([Value.ref am] : List Value)[0]? = some (.ref am) from rfl)] at p1
    cases p1
    obtain ⟨rfl, rfl⟩ := h_same hD hbd.1 p2
    have p3 : fs[25]? = some v1 := p3
    rw [ht.1] at p3
    cases p3
    have q1 : (mid ++ [Value.ref at9])[4]? = some (.ref c2) := q1
    have e9 : (mid ++ [Value.ref at9])[mid.length + 0]? = some (.ref at9) := z_getr rfl
    rw [hml] at e9
    have e9 : (mid ++ [Value.ref at9])[4]? = some (.ref at9) := e9
    rw [e9] at q1
    cases q1
    obtain ⟨rfl, rfl⟩ := h_same hD ht.2.1 q2
    rw [show z_at (.inl (cT, 2, .inl ft)) b = some (.int (ft b)) from h_aat hb2] at q3
    cases q3
    obtain ⟨xc, ex, u1, u2⟩ := h_tvi q4
    cases ex
    exact h_qn (by decide) (by omega)
  obtain ⟨p0, p1, h9, r1, r2, r3, r4, r5⟩ := hJc ws ts tys hw hD hj jm am b fs fc fr fk fa fb ft jk ak ja aa jb ab jt at9 cK cA cB cT hbd ⟨k1, k2, k3⟩ ⟨a1, a2, a3⟩ ⟨b1, b2, b3⟩ ht hft
  refine y_meth (J := J) (hok 244 (by decide)) (fun v hv => by rcases List.mem_singleton.mp hv with rfl; rfl) (show 1 ≤ 4 by decide) (fun ws' ts' h => hJ _ _ _ _ hj h) ?_
  intro p e s m below meth c X hX hC hQ
  have hi : y_i X = 244 := by rw [hX]; rfl
  have htt : y_tt X = z_tt := by rw [hX]
  have hkw : y_kw X = h_kcom := by rw [hX]; rfl
  have hd : y_d X = (3, 0) := by rw [hX]; rfl
  have hA2 : z_Con (y_l X) (y_b X) (y_D X) (y_sa X) (y_tt X) (y_J X) (h_Mask b) := by rw [hX]; exact hA
  have hT2 : z_Con (y_l X) (y_b X) (y_D X) (y_sa X) (y_tt X) (y_J X) h_Mtwo := by rw [hX]; exact hT
  clear hX
  have E := y_Ei hok hi (by decide) (cd := q_cd244) rfl
  show Y X 0 0 [some (.ref am), none, none, none] [] ws ts
  refine y_ic hC (E 0 _ rfl) ?_
  refine y_isn hC (E 1 _ rfl) ?_
  refine y_aln hC (E 2 _ rfl) rfl ?_
  refine y_get hcl hC (E 3 _ rfl) hbd.1 a1 ?_
  refine y_aln hC (E 4 _ rfl) rfl ?_
  refine y_get hcl hC (E 5 _ rfl) hbd.1 hbd.2.2.1 ?_
  refine y_ald hC (E 6 _ rfl) a2 a3 (by rw [htt]; rfl) hb2 (by decide) ?_
  rw [r1]
  refine y_isn hC (E 7 _ rfl) ?_
  exact h_cm_loop hok hcl hC htt hi hd hkw hA2 hT2 hQ (fun _ _ x => h_cp1 rfl rfl (List.mem_singleton.mpr rfl) (h_tint _ _ x)) r4 r5 (p1 - p0) p0 0 ws ts none rfl (Nat.le_refl _) r3 ⟨fs, fc, fr, fk, fb, fl, fn, jk, ak, jb, ab, jl, al, jn, an, cK, cB, cL, cN, hbd, hlen, hcb.1, hcb.2, ⟨⟨k1, k2, k3⟩, fun _ _ => rfl⟩, ⟨⟨b1, b2, b3⟩, r2⟩, ⟨l1, l2, l3⟩, ⟨n1, n2, n3⟩⟩ (by rw [Nat.sub_self]; rfl)
/-- layFar's contract, as the other methods want it -/
def h_Mlay (b : Nat) : z_M := (6, [(1, 40, 0), (0, 2147483648, 2147483672), (0, 0, 4294967295)], h_bf 3 b, h_klay, 0, 3, false, [], [])
theorem h_con_lay (hok : ∀ i, i < q_nM → q_mok i) (hcl : q_clok) {b : Nat} (hb2 : b < 2) : z_Con l base D sa z_tt J (h_Mlay b) := by
  intro ws ts av bv ha hf hj
  obtain ⟨vm, vw, vc, rfl, hvm, hvw, hvc⟩ := h_ta3 ha
  obtain ⟨jm, am, rfl, hm1, hm2⟩ := h_rt hvm
  obtain ⟨to, rfl, -⟩ := h_tvi hvw
  obtain ⟨cl, rfl, -⟩ := h_tvi hvc
  refine z_ofW (fun tys hw hD => ?_)
  obtain ⟨fs, fc, fr, N, hbd, hlen, htv, hNe, hN, hne⟩ := h_bank hw hD hb2 hm1 hm2 rfl rfl hf
  exact (h_m_lay hok hcl hbd hlen htv hNe hN hne to cl).imp (fun v ws' ts' h => by
    obtain ⟨rfl, -⟩ := h
    exact h_cp0 rfl rfl)
end HD
