/-! ===== by hand: the parser's state; isCompared, behindUnit ===== -/
section HF
variable {ws : va_W} {ts : List Nat} {jm am : Nat} {fs : List Value}
theorem h_rw.ext {k t n : Nat} {f g : Nat → Int32} (h : h_rw ws ts fs k t n f) (he : ∀ q, q < n → f q = g q) : h_rw ws ts fs k t n g := by
  obtain ⟨j, a, cA, g0, h1, h2⟩ := h
  exact ⟨j, a, cA, g0, h1, fun q hq => (h2 q hq).trans (he q hq)⟩
theorem h_upd2 {k1 t1 n1 j1 a1 k2 t2 n2 j2 a2 q : Nat} {c1 c2 : ClassId} {g1 g2 : Nat → Int32} (hb : h_ob ws ts jm am fs) (h1 : h_row ws ts fs k1 t1 n1 j1 a1 c1 g1) (h2 : h_row ws ts fs k2 t2 n2 j2 a2 c2 g2) (h12 : ¬ t1 = t2) (ht1 : ¬ t1 = 40) (ht2 : ¬ t2 = 40) (hq1 : ¬ q = k1) (hq2 : ¬ q = k2) (e1 e2 : Nat → Int32) (v : Value) : h_ob (((ws.set j1 (a1, .inl (c1, n1, .inl e1))).set j2 (a2, .inl (c2, n2, .inl e2))).set jm (am, .inr (9, fs.set q v))) ts jm am (fs.set q v) ∧ h_rw (((ws.set j1 (a1, .inl (c1, n1, .inl e1))).set j2 (a2, .inl (c2, n2, .inl e2))).set jm (am, .inr (9, fs.set q v))) ts (fs.set q v) k1 t1 n1 e1 ∧ h_rw (((ws.set j1 (a1, .inl (c1, n1, .inl e1))).set j2 (a2, .inl (c2, n2, .inl e2))).set jm (am, .inr (9, fs.set q v))) ts (fs.set q v) k2 t2 n2 e2 ∧ ∀ (k t n : Nat) (f : Nat → Int32), h_rw ws ts fs k t n f → ¬ t1 = t → ¬ t2 = t → ¬ 40 = t → ¬ q = k → h_rw (((ws.set j1 (a1, .inl (c1, n1, .inl e1))).set j2 (a2, .inl (c2, n2, .inl e2))).set jm (am, .inr (9, fs.set q v))) ts (fs.set q v) k t n f := by
  have hb2 := (hb.set (e := (a1, .inl (c1, n1, .inl e1))) h1.2.2 ht1).set (e := (a2, .inl (c2, n2, .inl e2))) h2.2.2 ht2
  refine ⟨hb2.put, ?_, ?_, fun k t n f h g1 g2 g3 g4 => (((h.set h1.2.2 g1).set h2.2.2 g2).set hb.2.1 g3).fld g4⟩
  · exact ((h_rw.of (((h1.self e1).set h2.2.2 (fun e => h12 e.symm)))).set hb.2.1 (fun e => ht1 e.symm)).fld hq1
  · exact ((h_rw.of ((h2.set h1.2.2 h12).self e2)).set hb.2.1 (fun e => ht2 e.symm)).fld hq2
theorem h_upd0 {q : Nat} (hb : h_ob ws ts jm am fs) (v : Value) : h_ob (ws.set jm (am, .inr (9, fs.set q v))) ts jm am (fs.set q v) ∧ ∀ (k t n : Nat) (f : Nat → Int32), h_rw ws ts fs k t n f → ¬ 40 = t → ¬ q = k → h_rw (ws.set jm (am, .inr (9, fs.set q v))) ts (fs.set q v) k t n f := ⟨hb.put, fun k t n f h g3 g4 => (h.set hb.2.1 g3).fld g4⟩
/-- the parser's state -/
def h_pF (ws : va_W) (ts : List Nat) (jm am rb p0 w u pi wi : Nat) (fs : List Value) : Prop := h_ob ws ts jm am fs ∧ ∃ (s : Nat → Nat) (eW eS fk fn fu : Nat → Int32) (cd ur : Nat), fs[35]? = some (.int (nI rb)) ∧ fs[36]? = some (.int (nI cd)) ∧ fs[37]? = some (.int (nI wi)) ∧ fs[38]? = some (.int (nI pi)) ∧ (fs[39]? = some (.int (nI ur)) ∧ ur ≤ 30) ∧ (h_rw ws ts fs 31 63 90 eW ∧ h_rw ws ts fs 32 64 90 eS) ∧ (h_rw ws ts fs 29 61 1120 fk ∧ h_rw ws ts fs 30 62 1120 fn) ∧ (h_rw ws ts fs 17 46 2 fu ∧ fu rb = nI u) ∧ h_pi w s eW eS fk pi wi cd u p0
def h_pD (ws : va_W) (ts : List Nat) (jm am rb p0 : Nat) (fs : List Value) : Prop := h_ob ws ts jm am fs ∧ ∃ (fk : Nat → Int32) (cd x : Nat), fs[35]? = some (.int (nI rb)) ∧ fs[36]? = some (.int (nI cd)) ∧ fs[38]? = some (.int (nI 0)) ∧ h_rw ws ts fs 29 61 1120 fk ∧ p0 ≤ cd ∧ cd ≤ p0 + 540 ∧ h_hs fk p0 (cd - p0) = some x
def h_en (fs : List Value) : Prop := ∃ e0, fs[7]? = some (.int (nI e0)) ∧ e0 ≤ 1600
end HF
def h_ke (b : Nat) : List z_C := [(40, 2147483654, 2147483654), (40, 2147483655, 2147483655), (40, 2147483656, 2147483656), (40, 2147483657, 2147483657), (40, 2147483658, 2147483658), (40, 2147483652, 2147483652), (40, 2147483653, 2147483653), (40, 2147483684, 2147483684), (40, 2147483686, 2147483686), (40, 2147483685, 2147483685), (40, 2147483687, 2147483687), (63, 2147483648, 2147483737), (64, 2147483648, 2147483737), (61, 2147483648 + 560 * b, 2147484207 + 560 * b), (62, 2147483648 + 560 * b, 2147484207 + 560 * b), (46, 2147483648 + b, 2147483648 + b)]
theorem h_kef {b q : Nat} (h : (4 ≤ q ∧ q ≤ 10) ∨ (36 ≤ q ∧ q ≤ 39)) : z_wr (h_ke b) 40 q := by
  rcases (show q = 4 ∨ q = 5 ∨ q = 6 ∨ q = 7 ∨ q = 8 ∨ q = 9 ∨ q = 10 ∨ q = 36 ∨ q = 37 ∨ q = 38 ∨ q = 39 by omega) with rfl | rfl | rfl | rfl | rfl | rfl | rfl | rfl | rfl | rfl | rfl
  · exact h_wrm (lo := 2147483652) (hi := 2147483652) (by simp [h_ke]) (by decide) (by decide)
  · exact h_wrm (lo := 2147483653) (hi := 2147483653) (by simp [h_ke]) (by decide) (by decide)
  · exact h_wrm (lo := 2147483654) (hi := 2147483654) (by simp [h_ke]) (by decide) (by decide)
  · exact h_wrm (lo := 2147483655) (hi := 2147483655) (by simp [h_ke]) (by decide) (by decide)
  · exact h_wrm (lo := 2147483656) (hi := 2147483656) (by simp [h_ke]) (by decide) (by decide)
  · exact h_wrm (lo := 2147483657) (hi := 2147483657) (by simp [h_ke]) (by decide) (by decide)
  · exact h_wrm (lo := 2147483658) (hi := 2147483658) (by simp [h_ke]) (by decide) (by decide)
  · exact h_wrm (lo := 2147483684) (hi := 2147483684) (by simp [h_ke]) (by decide) (by decide)
  · exact h_wrm (lo := 2147483685) (hi := 2147483685) (by simp [h_ke]) (by decide) (by decide)
  · exact h_wrm (lo := 2147483686) (hi := 2147483686) (by simp [h_ke]) (by decide) (by decide)
  · exact h_wrm (lo := 2147483687) (hi := 2147483687) (by simp [h_ke]) (by decide) (by decide)
/-- kills of the model's fields 4 .. 10 alone -/
def h_kf (kc : List z_C) : Prop := ∀ t q, z_wr kc t q → t = 40 ∧ 4 ≤ q ∧ q ≤ 10
theorem h_kf.sub {kc : List z_C} {b : Nat} (h : h_kf kc) : ∀ t q, z_wr kc t q → z_wr (h_ke b) t q := fun t q hq => by
  obtain ⟨rfl, h1, h2⟩ := h t q hq
  exact h_kef (Or.inl ⟨h1, h2⟩)
section HG
variable {ws ws' : va_W} {ts ts' : List Nat} {tys : List (ClassId × FieldType)} {kc : List z_C} {jm am rb p0 w u pi wi : Nat} {fs : List Value}
theorem h_pF.fr (hf : z_Fr kc ws ts ws' ts') (hw : z_W z_tt ws' tys ts') (hk : h_kf kc) (h : h_pF ws ts jm am rb p0 w u pi wi fs) : ∃ fs', h_pF ws' ts' jm am rb p0 w u pi wi fs' ∧ ∀ k, ¬ z_wr kc 40 k → fs'[k]? = fs[k]? := by
  obtain ⟨hb, s, eW, eS, fk, fn, fu, cd, ur, f35, f36, f37, f38, ⟨f39, f39b⟩, ⟨r1, r2⟩, ⟨r3, r4⟩, ⟨r5, r6⟩, hp⟩ := h
  obtain ⟨fs', hb', he⟩ := hb.fr hf hw
  have hi : ∀ k, 11 ≤ k → fs'[k]? = fs[k]? := fun k h9 => he k (fun q => by have := (hk 40 k q).2.2; omega)
  have hz : ∀ (t : Nat), ¬ t = 40 → ∀ (n q : Nat), q < n → ¬ z_wr kc t q := fun t h9 n q _ hq => h9 (hk t q hq).1
  exact ⟨fs', ⟨hb', s, eW, eS, fk, fn, fu, cd, ur, by rw [hi 35 (by decide)]; exact f35, by rw [hi 36 (by decide)]; exact f36, by rw [hi 37 (by decide)]; exact f37, by rw [hi 38 (by decide)]; exact f38, ⟨by rw [hi 39 (by decide)]; exact f39, f39b⟩, ⟨r1.fr hf hw (hi 31 (by decide)) (Or.inl rfl) rfl (hz 63 (by decide) 90), r2.fr hf hw (hi 32 (by decide)) (Or.inl rfl) rfl (hz 64 (by decide) 90)⟩, ⟨r3.fr hf hw (hi 29 (by decide)) (Or.inl rfl) rfl (hz 61 (by decide) 1120), r4.fr hf hw (hi 30 (by decide)) (Or.inl rfl) rfl (hz 62 (by decide) 1120)⟩, ⟨r5.fr hf hw (hi 17 (by decide)) (Or.inl rfl) rfl (hz 46 (by decide) 2), r6⟩, hp⟩, he⟩
end HG
section HY
variable {l : Launch} {base : Nat} {D : va_G} {sa : Nat → Nat} {J : va_W → List Nat → Prop} {ws : va_W} {ts : List Nat}
/-- isCompared -/
theorem h_m_cmpd (hok : ∀ i, i < q_nM → q_mok i) (hcl : q_clok) {jm am pi : Nat} {fs : List Value} {s : Nat → Nat} {eW eS : Nat → Int32} (hb : h_ob ws ts jm am fs) (h38 : fs[38]? = some (.int (nI pi))) (hp1 : 1 ≤ pi) (hpi : pi ≤ 90) (hr : h_rw ws ts fs 31 63 90 eW) (hst : h_st s eW eS pi) : z_Met l base D sa z_tt [] (0, 0) 252 [.ref am] ws ts (fun v ws' ts' => ws' = ws ∧ ts' = ts ∧ ∃ r, r < 2 ∧ v = some (.int (nI r))) := by
  obtain ⟨je, ae, cE, g, h1, h2⟩ := hr
  refine y_meth (J := fun _ _ => True) (hok 252 (by decide)) (fun v hv => by rcases List.mem_singleton.mp hv with rfl; rfl) (show 1 ≤ 2 by decide) (fun _ _ _ => trivial) ?_
  intro p e s9 m below meth c9 X hX hC hQ
  have hi : y_i X = 252 := by rw [hX]
  have htt : y_tt X = z_tt := by rw [hX]
  clear hX
  have E := y_Ei hok hi (by decide) (cd := q_cd252) rfl
  have h63 : (y_tt X 63).1 = 1 := by rw [htt]; rfl
  have loop : ∀ k, k < pi → Y X 0 7 [some (.ref am), some (.int (nI k))] [] ws ts := by
    intro k
    induction k with
    | zero =>
      intro hk
      have e0 : g 0 = nI 8 := by rw [h2 0 (by decide), hst.2.1 0 (by omega), hst.1]
      refine y_aln hC (E 5 _ rfl) rfl ?_
      refine y_get hcl hC (E 6 _ rfl) hb.1 h1.1 ?_
      refine y_iln hC (E 7 _ rfl) rfl ?_
      refine y_ald hC (E 8 _ rfl) h1.2.1 h1.2.2 h63 (by decide) (by decide) ?_
      rw [e0]
      refine y_ic hC (E 9 _ rfl) ?_
      refine y_cmp hC (E 10 _ rfl) (fun h => absurd (show nI 8 = nI 5 from h) (by decide)) (fun _ => ?_)
      refine y_aln hC (E 11 _ rfl) rfl ?_
      refine y_get hcl hC (E 12 _ rfl) hb.1 h1.1 ?_
      refine y_iln hC (E 13 _ rfl) rfl ?_
      refine y_ald hC (E 14 _ rfl) h1.2.1 h1.2.2 h63 (by decide) (by decide) ?_
      rw [e0]
      refine y_bp hC (E 15 _ rfl) ?_
      refine y_cmp hC (E 16 _ rfl) (fun _ => ?_) (fun h => absurd (show nI 8 = nI 6 from h) (by decide))
      refine y_aln hC (E 19 _ rfl) rfl ?_
      refine y_get hcl hC (E 20 _ rfl) hb.1 h1.1 ?_
      refine y_iln hC (E 21 _ rfl) rfl ?_
      refine y_ald hC (E 22 _ rfl) h1.2.1 h1.2.2 h63 (by decide) (by decide) ?_
      refine y_ic hC (E 23 _ rfl) ?_
      refine y_cmp hC (E 24 _ rfl) (fun _ => ?_) (fun _ => ?_)
      · refine y_ic hC (E 27 _ rfl) ?_
        exact y_zr hC hQ (E 28 _ rfl) (Nat.zero_le _) (by decide) ⟨rfl, rfl, 0, by decide, rfl⟩
      · refine y_ic hC (E 25 _ rfl) ?_
        refine y_go hC (E 26 _ rfl) ?_
        exact y_zr hC hQ (E 28 _ rfl) (Nat.zero_le _) (by decide) ⟨rfl, rfl, 1, by decide, rfl⟩
    | succ k IH =>
      intro hk
      have hk9 : k + 1 < 90 := by omega
      have e1 : nI (k + 1) + nI 4294967295 = nI k := by
        rw [nI_succ]
        have : (nI k + 1) + nI 4294967295 = nI k + (1 + nI 4294967295) := Int32.add_assoc _ _ _
        rw [this, show (1 : Int32) + nI 4294967295 = 0 by decide, Int32.add_zero]
      have down : Y X 0 28 [some (.ref am), some (.int (nI (k + 1)))] [] ws ts := by
        refine y_ii hC (E 17 _ rfl) rfl ?_
        rw [e1]
        refine y_go hC (E 18 _ rfl) ?_
        exact IH (by omega)
      refine y_aln hC (E 5 _ rfl) rfl ?_
      refine y_get hcl hC (E 6 _ rfl) hb.1 h1.1 ?_
      refine y_iln hC (E 7 _ rfl) rfl ?_
      refine y_ald hC (E 8 _ rfl) h1.2.1 h1.2.2 h63 hk9 (by decide) ?_
      refine y_ic hC (E 9 _ rfl) ?_
      refine y_cmp hC (E 10 _ rfl) (fun _ => down) (fun _ => ?_)
      refine y_aln hC (E 11 _ rfl) rfl ?_
      refine y_get hcl hC (E 12 _ rfl) hb.1 h1.1 ?_
      refine y_iln hC (E 13 _ rfl) rfl ?_
      refine y_ald hC (E 14 _ rfl) h1.2.1 h1.2.2 h63 hk9 (by decide) ?_
      refine y_bp hC (E 15 _ rfl) ?_
      refine y_cmp hC (E 16 _ rfl) (fun _ => ?_) (fun _ => down)
      refine y_aln hC (E 19 _ rfl) rfl ?_
      refine y_get hcl hC (E 20 _ rfl) hb.1 h1.1 ?_
      refine y_iln hC (E 21 _ rfl) rfl ?_
      refine y_ald hC (E 22 _ rfl) h1.2.1 h1.2.2 h63 hk9 (by decide) ?_
      refine y_ic hC (E 23 _ rfl) ?_
      refine y_cmp hC (E 24 _ rfl) (fun _ => ?_) (fun _ => ?_)
      · refine y_ic hC (E 27 _ rfl) ?_
        exact y_zr hC hQ (E 28 _ rfl) (Nat.zero_le _) (by decide) ⟨rfl, rfl, 0, by decide, rfl⟩
      · refine y_ic hC (E 25 _ rfl) ?_
        refine y_go hC (E 26 _ rfl) ?_
        exact y_zr hC hQ (E 28 _ rfl) (Nat.zero_le _) (by decide) ⟨rfl, rfl, 1, by decide, rfl⟩
  show Y X 0 0 [some (.ref am), none] [] ws ts
  refine y_aln hC (E 0 _ rfl) rfl ?_
  refine y_get hcl hC (E 1 _ rfl) hb.1 h38 ?_
  refine y_ic hC (E 2 _ rfl) ?_
  refine y_sub hC (E 3 _ rfl) ?_
  obtain ⟨r, rfl⟩ : ∃ r, pi = r + 1 := ⟨pi - 1, by omega⟩
  rw [show nI (r + 1) - nI 1 = nI r from nI_pred r]
  refine y_isn hC (E 4 _ rfl) ?_
  exact loop r (by omega)
end HY
section HB
variable {X : y_X} {jm am rb p0 u : Nat} {tk : Int32} {at0 sz : Nat} {ft : Nat → Int32}
/-- behindUnit's pops -/
theorem h_bu_pop (hok : ∀ i, i < q_nM → q_mok i) (hcl : q_clok) (hC : y_C X) (htt : y_tt X = z_tt) (hi : y_i X = 242) (hd : 1 ≤ (y_d X).1) (hkw : y_kw X = h_ke rb) (hrb : rb < 2) (hp0 : p0 = 560 * rb) {r P : Nat} (hr : r ≤ 6) (kk : ∀ (ws : va_W) (ts : List Nat) (fs : List Value) (s : Nat → Nat) (eW eS fk fn fu : Nat → Int32) (cd ur pi wi : Nat), h_ob ws ts jm am fs → fs[35]? = some (.int (nI rb)) → fs[36]? = some (.int (nI cd)) → fs[37]? = some (.int (nI wi)) → fs[38]? = some (.int (nI pi)) → fs[39]? = some (.int (nI ur)) → ur ≤ 30 → h_rw ws ts fs 31 63 90 eW → h_rw ws ts fs 32 64 90 eS → h_rw ws ts fs 29 61 1120 fk → h_rw ws ts fs 30 62 1120 fn → h_rw ws ts fs 17 46 2 fu → fu rb = nI u → h_pi 0 s eW eS fk pi wi cd u p0 → (7 ≤ s (pi - 1) ∨ s (pi - 1) < r) → h_see ws ts fs tk at0 sz ft → h_en fs → pi ≤ P → Y X 0 104 [some (.ref am), some (.int (nI r))] [] ws ts) : ∀ (pi : Nat) (ws : va_W) (ts : List Nat) (fs : List Value) (wi : Nat), pi ≤ P → h_pF ws ts jm am rb p0 0 u pi wi fs → h_see ws ts fs tk at0 sz ft → h_en fs → Y X 0 23 [some (.ref am), some (.int (nI r))] [] ws ts := by
  have E := y_Ei hok hi (by decide) (cd := q_cd242) rfl
  have hn : (0 : Nat) ≤ (y_d X).2 := Nat.zero_le _
  have h63 : (y_tt X 63).1 = 1 := by rw [htt]; rfl
  have h64 : (y_tt X 64).1 = 1 := by rw [htt]; rfl
  intro pi
  induction pi with
  | zero =>
    intro ws ts fs wi _ h
    obtain ⟨-, _, _, _, _, _, _, _, _, _, _, _, _, _, _, _, _, hp⟩ := h
    have := hp.1
    omega
  | succ pi IH =>
    intro ws ts fs wi hP h hsee hen
    obtain ⟨hb, s, eW, eS, fk, fn, fu, cd, ur, f35, f36, f37, f38, ⟨f39, f39b⟩, ⟨r1, r2⟩, ⟨r3, r4⟩, ⟨r5, r6⟩, hp⟩ := h
    have hbn := hp.bnd
    obtain ⟨je, ae, cE, g, q1, q2⟩ := id r1
    obtain ⟨js, as9, cS, g9, q3, q4⟩ := id r2
    obtain ⟨jk, ak, cK, gk, q5, q6⟩ := id r3
    obtain ⟨jn, an, cN, gn, q7, q8⟩ := id r4
    have hst := hp.2.1
    have eg : g pi = nI (s pi) := by rw [q2 pi (by omega), hst.2.1 pi (by omega)]
    have hs8 : s pi ≤ 8 := by
      rcases Nat.eq_zero_or_pos pi with e | e
      · rw [e, hst.1]; decide
      · have := hst.2.2.1 pi e (by omega); omega
    have out : 7 ≤ s pi ∨ s pi < r → Y X 0 104 [some (.ref am), some (.int (nI r))] [] ws ts := fun ho => kk ws ts fs s eW eS fk fn fu cd ur (pi + 1) wi hb f35 f36 f37 f38 f39 f39b r1 r2 r3 r4 r5 r6 hp ho hsee hen hP
    have ep : nI (pi + 1) - nI 1 = nI pi := nI_pred pi
    refine y_aln hC (E 13 _ rfl) rfl ?_
    refine y_get hcl hC (E 14 _ rfl) hb.1 q1.1 ?_
    refine y_aln hC (E 15 _ rfl) rfl ?_
    refine y_get hcl hC (E 16 _ rfl) hb.1 f38 ?_
    refine y_ic hC (E 17 _ rfl) ?_
    refine y_sub hC (E 18 _ rfl) ?_
    rw [ep]
    refine y_ald hC (E 19 _ rfl) q1.2.1 q1.2.2 h63 (show pi < 90 by omega) (by decide) ?_
    rw [eg]
    refine y_bp hC (E 20 _ rfl) ?_
    refine y_cmp hC (E 21 _ rfl) (fun h => out (Or.inl (by have := (nI_ltI (a := 6) (b := s pi) (by decide) (by omega)).mp h; omega))) (fun h => ?_)
    have hs6 : s pi ≤ 6 := (nI_leI (a := s pi) (b := 6) (by omega) (by decide)).mp h
    refine y_aln hC (E 22 _ rfl) rfl ?_
    refine y_get hcl hC (E 23 _ rfl) hb.1 q1.1 ?_
    refine y_aln hC (E 24 _ rfl) rfl ?_
    refine y_get hcl hC (E 25 _ rfl) hb.1 f38 ?_
    refine y_ic hC (E 26 _ rfl) ?_
    refine y_sub hC (E 27 _ rfl) ?_
    rw [ep]
    refine y_ald hC (E 28 _ rfl) q1.2.1 q1.2.2 h63 (show pi < 90 by omega) (by decide) ?_
    rw [eg]
    refine y_iln hC (E 29 _ rfl) rfl ?_
    refine y_cmp hC (E 30 _ rfl) (fun h => out (Or.inr ((nI_ltI (a := s pi) (b := r) (by omega) (by omega)).mp h))) (fun _ => ?_)
    obtain ⟨hp1, hpop, hw1⟩ := hp.pop hs6
    have hcd : cd < p0 + 560 ∧ p0 ≤ cd := by
      have a1 := hp.2.2.2.2.2.2.2.2.1 rfl
      have a2 := hp.2.2.2.2.2.2.1
      have a3 := hp.2.2.2.2.1
      omega
    refine y_aln hC (E 31 _ rfl) rfl ?_
    refine y_dup hC (E 32 _ rfl) rfl ?_
    refine y_get hcl hC (E 33 _ rfl) hb.1 f38 ?_
    refine y_ic hC (E 34 _ rfl) ?_
    refine y_sub hC (E 35 _ rfl) ?_
    rw [ep]
    refine y_put hcl hC (E 36 _ rfl) hb.1 hb.2.1 (by rw [htt]; rfl) ?_ (by rw [hb.2.2]; decide) (by rw [hkw]; exact h_kef (by omega)) (Or.inl ⟨rfl, _, rfl⟩) ?_
    · rw [htt]
      show z_tv _ ts (0, 2147483648, 2147483738) _
      exact h_tvn (by omega) (by omega) (by omega)
    obtain ⟨hbA, mvA⟩ := h_upd0 (q := 38) hb (.int (nI pi))
    have fA : ∀ k, ¬ 38 = k → (fs.set 38 (.int (nI pi)))[k]? = fs[k]? := fun k hk => List.getElem?_set_ne hk
    have fA38 : (fs.set 38 (.int (nI pi)))[38]? = some (.int (nI pi)) := List.getElem?_set_self (by rw [hb.2.2]; decide)
    have q1A := (q1.set (e := (am, .inr (9, fs.set 38 (.int (nI pi))))) hb.2.1 (by decide)).fld (q := 38) (v := .int (nI pi)) (by decide)
    -- behind the second put: emit
    have tail : ∀ (ws2 : va_W) (fs2 : List Value) (wi2 : Nat), h_ob ws2 ts jm am fs2 → fs2[35]? = some (.int (nI rb)) → fs2[36]? = some (.int (nI cd)) → fs2[37]? = some (.int (nI wi2)) → fs2[38]? = some (.int (nI pi)) → fs2[39]? = some (.int (nI ur)) → h_rw ws2 ts fs2 31 63 90 eW → h_rw ws2 ts fs2 32 64 90 eS → h_rw ws2 ts fs2 29 61 1120 fk → h_rw ws2 ts fs2 30 62 1120 fn → h_rw ws2 ts fs2 17 46 2 fu → h_see ws2 ts fs2 tk at0 sz ft → h_en fs2 → wi2 = (if s pi = 3 then wi - 1 else wi) → Y X 0 87 [some (.ref am), some (.int (nI r))] [] ws2 ts := by
      intro ws2 fs2 wi2 hb2 g35 g36 g37 g38 g39 w1 w2 w3 w4 w5 hsee2 hen2 hwi
      obtain ⟨js2, as2, cS2, g92, u3, u4⟩ := id w2
      obtain ⟨jk2, ak2, cK2, gk2, u5, u6⟩ := id w3
      obtain ⟨jn2, an2, cN2, gn2, u7, u8⟩ := id w4
      refine y_aln hC (E 50 _ rfl) rfl ?_
      refine y_aln hC (E 51 _ rfl) rfl ?_
      refine y_get hcl hC (E 52 _ rfl) hb2.1 u3.1 ?_
      refine y_aln hC (E 53 _ rfl) rfl ?_
      refine y_get hcl hC (E 54 _ rfl) hb2.1 g38 ?_
      refine y_ald hC (E 55 _ rfl) u3.2.1 u3.2.2 h64 (show pi < 90 by omega) (by decide) ?_
      rw [u4 pi (by omega)]
      refine y_ic hC (E 56 _ rfl) ?_
      refine y_vir hok hC (E 57 _ rfl) (by decide) (As := [.int (eS pi), .int (nI 0)]) (rv := []) (dd := (0, 0)) (by rw [htt]; exact h_m_emit hok hcl hb2 g36 (by omega) u5 u7 (eS pi) (nI 0)) hb2.1 rfl rfl hd hn h_cat0 ?_ (fun v ws3 ts3 _ hpo => ?_)
      · rw [hkw]
        intro t q hq
        obtain ⟨e, e1, e2, e3, e4⟩ := z_kw_iff.mp hq
        rcases List.mem_cons.mp e1 with rfl | e1
        · subst e2
          have e3 : 2147483648 + cd ≤ 2147483648 + q := e3
          have e4 : 2147483648 + q ≤ 2147483648 + cd := e4
          exact h_wrm (t := 61) (lo := 2147483648 + 560 * rb) (hi := 2147484207 + 560 * rb) (by simp [h_ke]) (by omega) (by omega)
        rcases List.mem_cons.mp e1 with rfl | e1
        · subst e2
          have e3 : 2147483648 + cd ≤ 2147483648 + q := e3
          have e4 : 2147483648 + q ≤ 2147483648 + cd := e4
          exact h_wrm (t := 62) (lo := 2147483648 + 560 * rb) (hi := 2147484207 + 560 * rb) (by simp [h_ke]) (by omega) (by omega)
        · rcases List.mem_singleton.mp e1 with rfl
          subst e2
          have e3 : 2147483684 ≤ 2147483648 + q := e3
          have e4 : 2147483648 + q ≤ 2147483684 := e4
          exact h_kef (by omega)
      obtain ⟨rfl, rfl, rfl⟩ := hpo
      obtain ⟨hb3, v1, v2, mv⟩ := h_upd2 (q := 36) hb2 u5 u7 (by decide) (by decide) (by decide) (by decide) (by decide) (upd gk2 cd (eS pi)) (upd gn2 cd (nI 0)) (.int (nI (cd + 1)))
      have f3 : ∀ k, ¬ 36 = k → (fs2.set 36 (.int (nI (cd + 1))))[k]? = fs2[k]? := fun k hk => List.getElem?_set_ne hk
      refine y_go hC (E 58 _ rfl) ?_
      refine IH _ ts3 (fs2.set 36 (.int (nI (cd + 1)))) wi2 (by omega) ⟨hb3, s, eW, eS, upd fk cd (eS pi), _, fu, cd + 1, ur, by rw [f3 35 (by decide)]; exact g35, List.getElem?_set_self (by rw [hb2.2.2]; decide), by rw [f3 37 (by decide)]; exact g37, by rw [f3 38 (by decide)]; exact g38, ⟨by rw [f3 39 (by decide)]; exact g39, f39b⟩, ⟨mv _ _ _ _ w1 (by decide) (by decide) (by decide) (by decide), mv _ _ _ _ w2 (by decide) (by decide) (by decide) (by decide)⟩, ⟨v1.ext (fun q hq => ?_), v2⟩, ⟨mv _ _ _ _ w5 (by decide) (by decide) (by decide) (by decide), r6⟩, by rw [hwi]; exact hpop⟩ ⟨by rw [f3 3 (by decide)]; exact hsee2.1, hsee2.2.1, by rw [f3 6 (by decide)]; exact hsee2.2.2.1, hsee2.2.2.2.1, by rw [f3 8 (by decide)]; exact hsee2.2.2.2.2.1, mv _ _ _ _ hsee2.2.2.2.2.2 (by decide) (by decide) (by decide) (by decide)⟩ ?_
      · by_cases eq : q = cd
        · subst eq
          rw [pk_us, pk_us]
        · rw [pk_un eq, pk_un eq]
          exact u6 q hq
      · obtain ⟨e0, e1, e2⟩ := hen2
        exact ⟨e0, by rw [f3 7 (by decide)]; exact e1, e2⟩
    have seeA : h_see (ws.set jm (am, .inr (9, fs.set 38 (.int (nI pi))))) ts (fs.set 38 (.int (nI pi))) tk at0 sz ft := ⟨by rw [fA 3 (by decide)]; exact hsee.1, hsee.2.1, by rw [fA 6 (by decide)]; exact hsee.2.2.1, hsee.2.2.2.1, by rw [fA 8 (by decide)]; exact hsee.2.2.2.2.1, mvA _ _ _ _ hsee.2.2.2.2.2 (by decide) (by decide)⟩
    have enA : h_en (fs.set 38 (.int (nI pi))) := by
      obtain ⟨e0, e1, e2⟩ := hen
      exact ⟨e0, by rw [fA 7 (by decide)]; exact e1, e2⟩
    have A35 : (fs.set 38 (.int (nI pi)))[35]? = some (.int (nI rb)) := by rw [fA 35 (by decide)]; exact f35
    have A36 : (fs.set 38 (.int (nI pi)))[36]? = some (.int (nI cd)) := by rw [fA 36 (by decide)]; exact f36
    have A37 : (fs.set 38 (.int (nI pi)))[37]? = some (.int (nI wi)) := by rw [fA 37 (by decide)]; exact f37
    have A39 : (fs.set 38 (.int (nI pi)))[39]? = some (.int (nI ur)) := by rw [fA 39 (by decide)]; exact f39
    have rA1 := mvA _ _ _ _ r1 (by decide) (by decide)
    have rA2 := mvA _ _ _ _ r2 (by decide) (by decide)
    have rA3 := mvA _ _ _ _ r3 (by decide) (by decide)
    have rA4 := mvA _ _ _ _ r4 (by decide) (by decide)
    have rA5 := mvA _ _ _ _ r5 (by decide) (by decide)
    refine y_aln hC (E 37 _ rfl) rfl ?_
    refine y_get hcl hC (E 38 _ rfl) hbA.1 q1A.1 ?_
    refine y_aln hC (E 39 _ rfl) rfl ?_
    refine y_get hcl hC (E 40 _ rfl) hbA.1 fA38 ?_
    refine y_ald hC (E 41 _ rfl) q1A.2.1 q1A.2.2 h63 (show pi < 90 by omega) (by decide) ?_
    rw [eg]
    refine y_ic hC (E 42 _ rfl) ?_
    refine y_cmp hC (E 43 _ rfl) (fun h => ?_) (fun h => ?_)
    · have h3 : ¬ s pi = 3 := fun e => by
        have h : ¬ nI (s pi) = nI 3 := h
        rw [e] at h
        exact h rfl
      exact tail _ _ wi hbA A35 A36 A37 fA38 A39 rA1 rA2 rA3 rA4 rA5 seeA enA (by rw [if_neg h3])
    · have h3 : s pi = 3 := (nI_eq (by omega) (by decide)).mp h
      have hw0 := hw1 h3
      obtain ⟨wj, rfl⟩ : ∃ wj, wi = wj + 1 := ⟨wi - 1, by omega⟩
      have hw7 := hp.2.2.2.1
      refine y_aln hC (E 44 _ rfl) rfl ?_
      refine y_dup hC (E 45 _ rfl) rfl ?_
      refine y_get hcl hC (E 46 _ rfl) hbA.1 A37 ?_
      refine y_ic hC (E 47 _ rfl) ?_
      refine y_sub hC (E 48 _ rfl) ?_
      rw [show nI (wj + 1) - nI 1 = nI wj from nI_pred wj]
      refine y_put hcl hC (E 49 _ rfl) hbA.1 hbA.2.1 (by rw [htt]; rfl) ?_ (by rw [hbA.2.2]; decide) (by rw [hkw]; exact h_kef (by omega)) (Or.inl ⟨rfl, _, rfl⟩) ?_
      · rw [htt]
        show z_tv _ ts (0, 2147483648, 2147483655) _
        exact h_tvn (by omega) (by omega) (by omega)
      obtain ⟨hbB, mvB⟩ := h_upd0 (q := 37) hbA (.int (nI wj))
      have fB : ∀ k, ¬ 37 = k → ((fs.set 38 (.int (nI pi))).set 37 (.int (nI wj)))[k]? = (fs.set 38 (.int (nI pi)))[k]? := fun k hk => List.getElem?_set_ne hk
      refine tail _ _ wj hbB (by rw [fB 35 (by decide)]; exact A35) (by rw [fB 36 (by decide)]; exact A36) (List.getElem?_set_self (by rw [hbA.2.2]; decide)) (by rw [fB 38 (by decide)]; exact fA38) (by rw [fB 39 (by decide)]; exact A39) (mvB _ _ _ _ rA1 (by decide) (by decide)) (mvB _ _ _ _ rA2 (by decide) (by decide)) (mvB _ _ _ _ rA3 (by decide) (by decide)) (mvB _ _ _ _ rA4 (by decide) (by decide)) (mvB _ _ _ _ rA5 (by decide) (by decide)) ⟨by rw [fB 3 (by decide)]; exact seeA.1, seeA.2.1, by rw [fB 6 (by decide)]; exact seeA.2.2.1, seeA.2.2.2.1, by rw [fB 8 (by decide)]; exact seeA.2.2.2.2.1, mvB _ _ _ _ seeA.2.2.2.2.2 (by decide) (by decide)⟩ ?_ (by rw [if_pos h3]; omega)
      obtain ⟨e0, e1, e2⟩ := enA
      exact ⟨e0, by rw [fB 7 (by decide)]; exact e1, e2⟩
end HB
