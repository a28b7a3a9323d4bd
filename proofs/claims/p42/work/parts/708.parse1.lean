/-! ===== by hand: the parser's small methods, and its state ===== -/
section YB
variable {X : y_X} {n pc ln x y z : Nat} {L : List (Option Value)} {st : List Value} {ws : va_W} {ts : List Nat} {a : Nat}
theorem y_bald {j t N q : Nat} {cA : ClassId} {f : Nat → Int32} (hC : y_C X) (E : y_E (y_i X) (pc, ln, .baload, x, y, z)) (he : ws[j]? = some (a, .inl (cA, N, .inl f))) (ht : ts[j]? = some t) (h1 : (y_tt X t).1 = 3) (hq : q < N) (hN : N < 2147483648) (k : Y X n (pc + ln) L (.int (f q) :: st) ws ts) : Y X n pc L (.int (nI q) :: .ref a :: st) ws ts := by
  intro H locs ls tys hp hL
  obtain ⟨hd, e1, -⟩ := E
  have e1 : ln = 1 := e1
  subst e1
  obtain ⟨en, he2, hc⟩ := hp.1.cell (show (q_ad ws)[j]? = some a by rw [List.getElem?_map, he]; rfl) ht
  rw [he] at he2
  cases he2
  obtain ⟨cA2, t2, f2, e9, h2, h3⟩ := hc.bytes h1
  cases e9
  have ec : (nI q).toNatClampNeg = q := nI_clamp (by omega)
  have := va_bald (p := y_p X) (l := y_l X) (e := y_e X) (R := q_rm (y_d X).1 (9 * (y_d X).2) (446 * (y_d X).2)) (s := y_s X) (m := y_m X) (args := y_a X) (below := y_w X) (meth := y_me X) (c := y_c X) (cells := 9 * n) (slots := 446 * n) (Q := y_Q X) (ls := ls) (rest := st) hC.1.1 hC.1.2.1 hp.2.2.1 hp.2.1 j t2 he h2 (vp_in_nI hq (by omega)) hd (by rw [ec]; exact k H locs ls tys hp hL)
  exact this
end YB
/-- a row of the model, its numbers -/
def h_rw (ws : va_W) (ts : List Nat) (fs : List Value) (k t n : Nat) (f : Nat → Int32) : Prop := ∃ (j a : Nat) (cA : ClassId) (g : Nat → Int32), h_row ws ts fs k t n j a cA g ∧ ∀ q, q < n → g q = f q
/-- the model's object -/
def h_ob (ws : va_W) (ts : List Nat) (jm am : Nat) (fs : List Value) : Prop := ws[jm]? = some (am, .inr (9, fs)) ∧ ts[jm]? = some 40 ∧ fs.length = 68
/-- the sign where the reader is -/
def h_sg (at0 sz : Nat) (ft : Nat → Int32) : Int32 := if at0 < sz then ft at0 &&& nI 255 else nI 0
section HF
variable {ws ws' : va_W} {ts ts' : List Nat} {tys : List (ClassId × FieldType)} {kc : List z_C}
theorem h_ob.fr (hf : z_Fr kc ws ts ws' ts') (hw : z_W z_tt ws' tys ts') {jm am : Nat} {fs : List Value} (h : h_ob ws ts jm am fs) : ∃ fs', h_ob ws' ts' jm am fs' ∧ ∀ k, ¬ z_wr kc 40 k → fs'[k]? = fs[k]? := by
  obtain ⟨h1, h2, hl⟩ := h
  have h3 := z_gm hf.1 h2
  obtain ⟨fs', o1, o2, -⟩ := h_obj hw (z_gm hf.2.1 (h_ad h1)) h3 rfl
  have o1 : ws'[jm]? = some (am, .inr (9, fs')) := o1
  have o2 : fs'.length = 68 := o2
  refine ⟨fs', ⟨o1, h3, o2⟩, fun k hk9 => ?_⟩
  rcases Nat.lt_or_ge k 68 with hk | hk
  · have hv : fs[k]? = some (fs[k]'(by omega)) := List.getElem?_eq_getElem (by omega)
    obtain ⟨e', g1, g2⟩ := hf.2.2 jm am 40 k (.inr (9, fs)) (fs[k]'(by omega)) h1 h2 hv hk9
    rw [o1] at g1
    cases g1
    have g2 : fs'[k]? = some (fs[k]'(by omega)) := g2
    rw [g2, hv]
  · rw [List.getElem?_eq_none (by omega), List.getElem?_eq_none (by omega)]
theorem h_rw.fr (hf : z_Fr kc ws ts ws' ts') (hw : z_W z_tt ws' tys ts') {fs fs' : List Value} {k t n : Nat} {f : Nat → Int32} (h : h_rw ws ts fs k t n f) (he : fs'[k]? = fs[k]?) (ht : (z_tt t).1 = 1 ∨ (z_tt t).1 = 3 ∨ (z_tt t).1 = 5) (hn : (z_tt t).2.1 = n) (hk : ∀ q, q < n → ¬ z_wr kc t q) : h_rw ws' ts' fs' k t n f := by
  obtain ⟨j, a, cA, g, h1, h2⟩ := h
  have h3 := z_gm hf.1 h1.2.2
  have hx : ∃ (cB : ClassId) (g' : Nat → Int32), ws'[j]? = some (a, .inl (cB, (z_tt t).2.1, .inl g')) := by
    obtain ⟨e, he, hc⟩ := hw.cell (z_gm hf.2.1 (h_ad h1.2.1)) h3
    rcases ht with ht | ht | ht
    · obtain ⟨cB, t2, g', rfl, -⟩ := hc.ints ht
      exact ⟨cB, g', he⟩
    · obtain ⟨cB, t2, g', rfl, -⟩ := hc.bytes ht
      exact ⟨cB, g', he⟩
    · obtain ⟨cB, t2, g', rfl, -⟩ := hc.bools ht
      exact ⟨cB, g', he⟩
  obtain ⟨cB, g', e1⟩ := hx
  rw [hn] at e1
  refine ⟨j, a, cB, g', ⟨by rw [he]; exact h1.1, e1, h3⟩, fun q hq => ?_⟩
  obtain ⟨e', e2, e3⟩ := hf.2.2 j a t q _ (.int (g q)) h1.2.1 h1.2.2 (h_aat hq) (hk q hq)
  rw [e1] at e2
  cases e2
  rw [h_aat hq] at e3
  exact (Value.int.inj (Option.some.inj e3)).trans (h2 q hq)
theorem h_rw.of {fs : List Value} {k t n j a : Nat} {cA : ClassId} {f : Nat → Int32} (h : h_row ws ts fs k t n j a cA f) : h_rw ws ts fs k t n f := ⟨j, a, cA, f, h, fun _ _ => rfl⟩
theorem h_rw.fld {fs : List Value} {k t n q : Nat} {f : Nat → Int32} {v : Value} (h : h_rw ws ts fs k t n f) (hq : ¬ q = k) : h_rw ws ts (fs.set q v) k t n f := by
  obtain ⟨j, a, cA, g, h1, h2⟩ := h
  exact ⟨j, a, cA, g, h1.fld hq, h2⟩
theorem h_rw.set {fs : List Value} {k t n i u : Nat} {f : Nat → Int32} {e : Nat × va_E} (h : h_rw ws ts fs k t n f) (hu : ts[i]? = some u) (hne : ¬ u = t) : h_rw (ws.set i e) ts fs k t n f := by
  obtain ⟨j, a, cA, g, h1, h2⟩ := h
  exact ⟨j, a, cA, g, h1.set hu hne, h2⟩
theorem h_ob.put {jm am q : Nat} {fs : List Value} {v : Value} (h : h_ob ws ts jm am fs) : h_ob (ws.set jm (am, .inr (9, fs.set q v))) ts jm am (fs.set q v) := ⟨List.getElem?_set_self (List.getElem?_eq_some_iff.mp h.1).1, h.2.1, by rw [List.length_set]; exact h.2.2⟩
theorem h_ob.set {jm am i u : Nat} {fs : List Value} {e : Nat × va_E} (h : h_ob ws ts jm am fs) (hu : ts[i]? = some u) (hne : ¬ u = 40) : h_ob (ws.set i e) ts jm am fs := ⟨h_getset h.1 (h_tne hu h.2.1 hne), h.2.1, h.2.2⟩
end HF
section HS
variable {l : Launch} {base : Nat} {D : va_G} {sa : Nat → Nat} {ws : va_W} {ts : List Nat}
def h_good (x : Int32) : Nat := if x = 0 then 1 else 0
theorem h_good_lt (x : Int32) : h_good x < 2 := by
  unfold h_good
  split <;> decide
theorem h_m_good (hok : ∀ i, i < q_nM → q_mok i) (hcl : q_clok) {jm am : Nat} {fs : List Value} {x : Int32} (hb : h_ob ws ts jm am fs) (hx : fs[4]? = some (.int x)) : z_Met l base D sa z_tt [] (0, 0) 116 [.ref am] ws ts (h_pu ws ts (nI (h_good x))) := by
  refine y_meth (J := fun _ _ => True) (hok 116 (by decide)) (fun v hv => by rcases List.mem_singleton.mp hv with rfl; rfl) (show 1 ≤ 1 by decide) (fun _ _ _ => trivial) ?_
  intro p e s m below meth c X hX hC hQ
  have hi : y_i X = 116 := by rw [hX]
  clear hX
  have E := y_Ei hok hi (by decide) (cd := q_cd116) rfl
  show Y X 0 0 [some (.ref am)] [] ws ts
  refine y_aln hC (E 0 _ rfl) rfl ?_
  refine y_get hcl hC (E 1 _ rfl) hb.1 hx ?_
  refine y_if hC (E 2 _ rfl) (fun h => ?_) (fun h => ?_)
  · have h : ¬ x = 0 := h
    refine y_ic hC (E 5 _ rfl) ?_
    exact y_zr hC hQ (E 6 _ rfl) (Nat.zero_le _) (by decide) ⟨rfl, rfl, by rw [h_good, if_neg h]⟩
  · have h : x = 0 := h
    refine y_ic hC (E 3 _ rfl) ?_
    refine y_go hC (E 4 _ rfl) ?_
    exact y_zr hC hQ (E 6 _ rfl) (Nat.zero_le _) (by decide) ⟨rfl, rfl, by rw [h_good, if_pos h]⟩
theorem h_m_sign (hok : ∀ i, i < q_nM → q_mok i) (hcl : q_clok) {jm am at0 sz : Nat} {fs : List Value} {ft : Nat → Int32} (hb : h_ob ws ts jm am fs) (hs : fs[3]? = some (.int (nI sz))) (hsz : sz ≤ 1600) (hat : at0 ≤ 1600) (hr : h_rw ws ts fs 1 42 1600 ft) : z_Met l base D sa z_tt [] (0, 0) 160 [.ref am, .int (nI at0)] ws ts (h_pu ws ts (h_sg at0 sz ft)) := by
  obtain ⟨jt, at9, cT, g, hr1, hr2⟩ := hr
  refine y_meth (J := fun _ _ => True) (hok 160 (by decide)) (fun v hv => by
    rcases List.mem_cons.mp hv with rfl | hv
    · rfl
    rcases List.mem_singleton.mp hv with rfl
    rfl) (show 2 ≤ 2 by decide) (fun _ _ _ => trivial) ?_
  intro p e s m below meth c X hX hC hQ
  have hi : y_i X = 160 := by rw [hX]
  have htt : y_tt X = z_tt := by rw [hX]
  clear hX
  have E := y_Ei hok hi (by decide) (cd := q_cd160) rfl
  show Y X 0 0 [some (.ref am), some (.int (nI at0))] [] ws ts
  refine y_iln hC (E 0 _ rfl) rfl ?_
  refine y_aln hC (E 1 _ rfl) rfl ?_
  refine y_get hcl hC (E 2 _ rfl) hb.1 hs ?_
  refine y_cmp hC (E 3 _ rfl) (fun h => ?_) (fun h => ?_)
  · have h : sz ≤ at0 := (nI_leI (by omega) (by omega)).mp h
    refine y_ic hC (E 11 _ rfl) ?_
    exact y_ir hC hQ (E 12 _ rfl) (Nat.zero_le _) ⟨rfl, rfl, by rw [h_sg, if_neg (by omega)]⟩
  · have h : at0 < sz := (nI_ltI (by omega) (by omega)).mp h
    refine y_aln hC (E 4 _ rfl) rfl ?_
    refine y_get hcl hC (E 5 _ rfl) hb.1 hr1.1 ?_
    refine y_iln hC (E 6 _ rfl) rfl ?_
    refine y_bald hC (E 7 _ rfl) hr1.2.1 hr1.2.2 (by rw [htt]; rfl) (show at0 < 1600 by omega) (by decide) ?_
    rw [hr2 at0 (by omega)]
    refine y_sp hC (E 8 _ rfl) ?_
    refine y_and hC (E 9 _ rfl) ?_
    refine y_go hC (E 10 _ rfl) ?_
    exact y_ir hC hQ (E 12 _ rfl) (Nat.zero_le _) ⟨rfl, rfl, by rw [h_sg, if_pos h]⟩
def h_sh (tk : Int32) (at0 sz : Nat) (ft : Nat → Int32) (c : Int32) : Nat := if tk = nI 5 ∧ h_sg at0 sz ft = c then 1 else 0
theorem h_sh_lt (tk : Int32) (at0 sz : Nat) (ft : Nat → Int32) (c : Int32) : h_sh tk at0 sz ft c < 2 := by
  unfold h_sh
  split <;> decide
/-- what the reader sees -/
def h_see (ws : va_W) (ts : List Nat) (fs : List Value) (tk : Int32) (at0 sz : Nat) (ft : Nat → Int32) : Prop := fs[3]? = some (.int (nI sz)) ∧ sz ≤ 1600 ∧ fs[6]? = some (.int (nI at0)) ∧ at0 ≤ 1600 ∧ fs[8]? = some (.int tk) ∧ h_rw ws ts fs 1 42 1600 ft
theorem h_m_signhere (hok : ∀ i, i < q_nM → q_mok i) (hcl : q_clok) {jm am at0 sz : Nat} {fs : List Value} {ft : Nat → Int32} {tk : Int32} (hb : h_ob ws ts jm am fs) (hs : h_see ws ts fs tk at0 sz ft) (c : Int32) : z_Met l base D sa z_tt [] (1, 0) 258 [.ref am, .int c] ws ts (h_pu ws ts (nI (h_sh tk at0 sz ft c))) := by
  obtain ⟨s1, s2, s3, s4, s5, s6⟩ := hs
  refine y_meth (J := fun _ _ => True) (hok 258 (by decide)) (fun v hv => by
    rcases List.mem_cons.mp hv with rfl | hv
    · rfl
    rcases List.mem_singleton.mp hv with rfl
    rfl) (show 2 ≤ 2 by decide) (fun _ _ _ => trivial) ?_
  intro p e s m below meth c9 X hX hC hQ
  have hi : y_i X = 258 := by rw [hX]
  have htt : y_tt X = z_tt := by rw [hX]
  have hd : y_d X = (1, 0) := by rw [hX]
  clear hX
  have E := y_Ei hok hi (by decide) (cd := q_cd258) rfl
  have no : ¬ (tk = nI 5 ∧ h_sg at0 sz ft = c) → Y X 0 24 [some (.ref am), some (.int c)] [] ws ts := by
    intro h
    refine y_ic hC (E 12 _ rfl) ?_
    exact y_zr hC hQ (E 13 _ rfl) (Nat.zero_le _) (by decide) ⟨rfl, rfl, by rw [h_sh, if_neg h]⟩
  show Y X 0 0 [some (.ref am), some (.int c)] [] ws ts
  refine y_aln hC (E 0 _ rfl) rfl ?_
  refine y_get hcl hC (E 1 _ rfl) hb.1 s5 ?_
  refine y_ic hC (E 2 _ rfl) ?_
  refine y_cmp hC (E 3 _ rfl) (fun h => no (fun q => h q.1)) (fun h => ?_)
  refine y_aln hC (E 4 _ rfl) rfl ?_
  refine y_aln hC (E 5 _ rfl) rfl ?_
  refine y_get hcl hC (E 6 _ rfl) hb.1 s3 ?_
  refine y_virp hok hC (E 7 _ rfl) (by decide) (As := [.int (nI at0)]) (rv := []) (by rw [htt]; exact h_m_sign hok hcl hb s1 s2 s4 s6) hb.1 rfl rfl (by rw [hd]; decide) (Nat.zero_le _) h_cat0 ?_
  refine y_iln hC (E 8 _ rfl) rfl ?_
  refine y_cmp hC (E 9 _ rfl) (fun g => no (fun q => g q.2)) (fun g => ?_)
  refine y_ic hC (E 10 _ rfl) ?_
  refine y_go hC (E 11 _ rfl) ?_
  exact y_zr hC hQ (E 13 _ rfl) (Nat.zero_le _) (by decide) ⟨rfl, rfl, by rw [h_sh, if_pos ⟨h, g⟩]⟩
/-- what the reader sees, out of the types -/
theorem h_see_of {tys : List (ClassId × FieldType)} (hw : z_W z_tt ws tys ts) {jm am : Nat} {fs : List Value} (h : h_ob ws ts jm am fs) : ∃ tk at0 sz ft, h_see ws ts fs tk at0 sz ft := by
  obtain ⟨o2, o3⟩ := h_objt hw h.1 h.2.1
  obtain ⟨x3, a1, a2, a3⟩ := h_fi o2 o3 (k := 3) (lo := 2147483648) (hi := 2147485248) (by decide) rfl
  obtain ⟨x6, b1, b2, b3⟩ := h_fi o2 o3 (k := 6) (lo := 2147483648) (hi := 2147485248) (by decide) rfl
  obtain ⟨x8, c1, -⟩ := h_fi o2 o3 (k := 8) (lo := 2147483648) (hi := 2147483653) (by decide) rfl
  obtain ⟨n3, _, e3, d3⟩ := z_nat (x := x3) a2
  obtain ⟨n6, _, e6, d6⟩ := z_nat (x := x6) b2
  have hk2 : 1 < fs.length := by rw [h.2.2]; decide
  have hv := o3 1 _ (List.getElem?_eq_getElem hk2)
  obtain ⟨j, a, g1, g2, g3⟩ := h_rt (t := 42) (u := 0) hv
  obtain ⟨e, he, hc⟩ := hw.cell g2 g3
  obtain ⟨cA, t2, f, rfl, -⟩ := hc.bytes rfl
  subst e3
  subst e6
  exact ⟨x8, n6, n3, f, a1, by omega, b1, by omega, c1, j, a, cA, f, ⟨by rw [List.getElem?_eq_getElem hk2, g1], he, g3⟩, fun _ _ => rfl⟩
end HS
