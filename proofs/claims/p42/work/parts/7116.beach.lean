/-! ===== by hand: beach ===== -/
def h_Jo (jm b : Nat) (ws : va_W) (ts : List Nat) : Prop := ∃ (N A U : Nat), h_Jk jm b N ws ts ∧ h_Jn jm A U ws ∧ h_Ja jm N ws ts ∧ h_Jw jm (A + U) N ws ts ∧ h_Jx jm N ws ts ∧ h_Jh jm b N ws ts
def h_kJo (kc : List z_C) (b : Nat) : Bool := h_off kc 40 11 12 && (h_off kc 40 16 16 && (h_off kc 40 20 20 && (h_off kc 40 34 34 && (h_off kc 40 41 44 && (h_off kc 40 66 67 && (h_off kc 49 b b && (h_off kc 50 b b && (h_off kc 51 b b && (h_off kc 52 (5 * b) (5 * b + 4) && (h_not kc 66 && (h_not kc 67 && (h_not kc 86 && h_not kc 87))))))))))))
def h_kJc (kc : List z_C) (b : Nat) : Bool := h_off kc 40 23 25 && (h_off kc 40 29 29 && (h_off kc 40 34 34 && (h_off kc 55 b b && (h_off kc 56 b b && (h_off kc 57 b b && h_off kc 61 (560 * b) (560 * b + 559))))))
section HB
variable {ws ws' : va_W} {ts ts' : List Nat} {kc : List z_C} {jm am b : Nat}
theorem h_Jo.frk (hk : h_kJo kc b = true) (hf : z_Fr kc ws ts ws' ts') (h : h_Jo jm b ws ts) : h_Jo jm b ws' ts' := by
  obtain ⟨a1, hk⟩ := q_ands hk
  obtain ⟨a2, hk⟩ := q_ands hk
  obtain ⟨a3, hk⟩ := q_ands hk
  obtain ⟨a4, hk⟩ := q_ands hk
  obtain ⟨a5, hk⟩ := q_ands hk
  obtain ⟨a6, hk⟩ := q_ands hk
  obtain ⟨a7, hk⟩ := q_ands hk
  obtain ⟨a8, hk⟩ := q_ands hk
  obtain ⟨a9, hk⟩ := q_ands hk
  obtain ⟨b1, hk⟩ := q_ands hk
  obtain ⟨b2, hk⟩ := q_ands hk
  obtain ⟨b3, hk⟩ := q_ands hk
  obtain ⟨b4, b5⟩ := q_ands hk
  obtain ⟨N, A, U, h1, h2, h3, h4, h5, h6⟩ := h
  have hm := h1.1
  exact ⟨N, A, U, h1.fr hf (h_offs a4 34 (by omega) (by omega)) (h_offs a1 11 (by omega) (by omega)) (h_offs a1 12 (by omega) (by omega)) (h_offs a7 b (by omega) (by omega)) (h_offs a8 b (by omega) (by omega)), h2.fr hf hm (h_offs a5 43 (by omega) (by omega)) (h_offs a5 44 (by omega) (by omega)), h3.fr hf hm (h_offs a5 41 (by omega) (by omega)) (fun w _ => h_nots b2 _), h4.fr hf hm (h_offs a5 42 (by omega) (by omega)) (h_nots b3), h5.fr hf hm (h_offs a6 66 (by omega) (by omega)) (h_offs a6 67 (by omega) (by omega)) (h_nots b4) (h_nots b5), h6.fr hf hm (h_offs a2 16 (by omega) (by omega)) (h_offs a3 20 (by omega) (by omega)) (h_offs a9 b (by omega) (by omega)) (fun w hw => h_offs b1 _ (by omega) (by omega))⟩
theorem h_Jc.frk {tys : List (ClassId × FieldType)} (hk : h_kJc kc b = true) (hf : z_Fr kc ws ts ws' ts') (hw' : z_W z_tt ws' tys ts') (hm1 : (q_ad ws)[jm]? = some am) (h34 : h_pl ws jm 34 (.int (nI b))) (hb : b < 2) (h : h_Jc jm ws ts) : h_Jc jm ws' ts' := by
  obtain ⟨a1, hk⟩ := q_ands hk
  obtain ⟨a2, hk⟩ := q_ands hk
  obtain ⟨a3, hk⟩ := q_ands hk
  obtain ⟨a4, hk⟩ := q_ands hk
  obtain ⟨a5, hk⟩ := q_ands hk
  obtain ⟨a6, a7⟩ := q_ands hk
  obtain ⟨hm, b', jk, ak, ja, aa, jb, ab, jt, at9, fk, fa, fb, ft, hb', h34', ⟨r1, r2⟩, ⟨r3, r4⟩, ⟨r5, r6⟩, ⟨r7, r8⟩, hc⟩ := h
  have eb : b' = b := by
    obtain ⟨a, e, q1, q2⟩ := h34
    exact (nI_eq (by omega) (by omega)).mp (Value.int.inj (h34'.inj q1 q2))
  subst eb
  have r1' := r1.fr hf hm (h_offs a2 29 (by omega) (by omega))
  obtain ⟨fs', q1, -, -⟩ := h_obj hw' (z_gm hf.2.1 hm1) (z_gm hf.1 hm) rfl
  have q1 : ws'[jm]? = some (am, .inr (9, fs')) := q1
  obtain ⟨cK, fk', rk⟩ := r1'.see hw' q1 rfl
  have rk : h_row ws' ts' fs' 29 61 1120 jk ak cK fk' := rk
  have eq : ∀ q, 560 * b' ≤ q → q < 560 * b' + 560 → fk' q = fk q := fun q h1 h2 => (rk.at (by omega) ((r2 q (by omega)).fr hf r1.2.2 (h_offs a7 q (by omega) (by omega)))).symm
  refine ⟨z_gm hf.1 hm, b', jk, ak, ja, aa, jb, ab, jt, at9, fk', fa, fb, ft, hb, h34.fr hf hm (h_offs a3 34 (by omega) (by omega)), ⟨r1', fun q hq => rk.pl hq⟩, ⟨r3.fr hf hm (h_offs a1 23 (by omega) (by omega)), r4.fr hf r3.2.2 (h_offs a4 _ (by omega) (by omega))⟩, ⟨r5.fr hf hm (h_offs a1 24 (by omega) (by omega)), r6.fr hf r5.2.2 (h_offs a5 _ (by omega) (by omega))⟩, ⟨r7.fr hf hm (h_offs a1 25 (by omega) (by omega)), r8.fr hf r7.2.2 (h_offs a6 _ (by omega) (by omega))⟩, fun e => ?_⟩
  obtain ⟨p0, p1, h, c1, c2, c3, c4, c5, c6, c7⟩ := hc e
  refine ⟨p0, p1, h, c1, c2, c3, c4, ?_, c6, c7⟩
  rw [h_hs_eq (f := fk') (g := fk) (fun k k1 k2 => eq k (by omega) (by omega))]
  exact c5
theorem h_setfo {kw : List z_C} {ci t q : Nat} {fs : List Value} {v : Value} (he : ws[jm]? = some (am, .inr (ci, fs))) (ht : ts[jm]? = some t) (hw : z_wr kw t q) : z_Fr kw ws ts (ws.set jm (am, .inr (ci, fs.set q v))) ts := (z_Fr.rf kw ws ts).set he ht (fun k v hk hnw => by
  have ek : ¬ q = k := fun e => hnw (by rw [← e]; exact hw)
  show (fs.set q _)[k]? = some v
  rw [List.getElem?_set_ne ek]
  exact hk)
/-- the code of a bank that was read, where that bank is the bank -/
theorem h_Jc.new {tys : List (ClassId × FieldType)} {ti : Nat} (hw : z_W z_tt ws tys ts) (hm1 : (q_ad ws)[jm]? = some am) (hm2 : ts[jm]? = some 40) (hb : b < 2) (h34 : h_pl ws jm 34 (.int (nI b))) (n25 : h_ln ws ts jm 25 57 b (nI ti)) (hti : ti = 0 ∨ (ti = 1 ∧ h_cw jm b ws ts)) : h_Jc jm ws ts := by
  obtain ⟨fs, q1, q2, q3⟩ := h_obj hw hm1 hm2 rfl
  have q1 : ws[jm]? = some (am, .inr (9, fs)) := q1
  have q2 : fs.length = 68 := q2
  obtain ⟨jt, ax, t1, t2⟩ := n25
  rcases hti with rfl | ⟨rfl, jk, ak, cd, x, fk, ⟨k1, k2⟩, ⟨ja, aa, a1, a2⟩, ⟨jb, ab, b1, b2⟩, c1, c2, c3⟩
  · obtain ⟨jk, ak, cK, fk, k1, k2, k3, -⟩ := h_fa hw q2 q3 (k := 29) (t := 61) (u := 0) (by decide) rfl rfl
    obtain ⟨ja, aa, cA, fa, a1, a2, a3, -⟩ := h_fa hw q2 q3 (k := 23) (t := 55) (u := 0) (by decide) rfl rfl
    obtain ⟨jb, ab, cB, fb, b1, b2, b3, -⟩ := h_fa hw q2 q3 (k := 24) (t := 56) (u := 0) (by decide) rfl rfl
    have rk : h_row ws ts fs 29 61 1120 jk ak cK fk := ⟨k1, k2, k3⟩
    have ra : h_row ws ts fs 23 55 2 ja aa cA fa := ⟨a1, a2, a3⟩
    have rb : h_row ws ts fs 24 56 2 jb ab cB fb := ⟨b1, b2, b3⟩
    exact ⟨hm2, b, jk, ak, ja, aa, jb, ab, jt, ax, fk, fa, fb, fun _ => nI 0, hb, h34, ⟨rk.px q1, fun q hq => rk.pl hq⟩, ⟨ra.px q1, ra.pl hb⟩, ⟨rb.px q1, rb.pl hb⟩, ⟨t1, t2⟩, fun e => absurd ((nI_eq (by decide) (by decide)).mp e) (by decide)⟩
  · exact ⟨hm2, b, jk, ak, ja, aa, jb, ab, jt, ax, fk, fun _ => nI (560 * b), fun _ => nI cd, fun _ => nI 1, hb, h34, ⟨k1, k2⟩, ⟨a1, a2⟩, ⟨b1, b2⟩, ⟨t1, t2⟩, fun _ => ⟨560 * b, cd, x, rfl, rfl, c1, by omega, c3, Nat.le_refl _, by omega⟩⟩
end HB
def h_kb1 (rb : Nat) : List z_C := [(40, 2147483650, 2147483658), (40, 2147483683, 2147483684), (42, 2147483648, 2147485247), (43, 2147483648 + rb, 2147483648 + rb), (44, 2147483648 + rb, 2147483648 + rb), (45, 2147483648 + rb, 2147483648 + rb), (46, 2147483648 + rb, 2147483648 + rb), (47, 2147483648 + rb, 2147483648 + rb), (48, 2147483648 + rb, 2147483648 + rb), (49, 2147483648 + rb, 2147483648 + rb), (50, 2147483648 + rb, 2147483648 + rb), (51, 2147483648 + rb, 2147483648 + rb), (57, 2147483648 + rb, 2147483648 + rb), (58, 2147483648 + rb, 2147483648 + rb), (59, 2147483648 + rb, 2147483648 + rb)]
def h_kbe : List z_C := (40, 2147483682, 2147483682) :: ((h_kb1 0 ++ h_kb1 1) ++ ((h_krl 0 ++ h_krl 1) ++ h_kst))
def h_pbe (jm : Nat) : Option Value → va_W → List Nat → Prop := fun v ws ts => (∃ x : Int32, v = some (.int x)) ∧ h_Jp jm ws ts ∧ h_Jc jm ws ts
theorem h_kb_ok : ∀ b, b < 2 → h_kJo (h_krl (1 - b)) b = true ∧ h_kJc (h_krl (1 - b)) b = true ∧ h_kJo (h_kb1 (1 - b)) b = true ∧ h_kJc (h_kb1 (1 - b)) b = true ∧ ((h_krl (1 - b)).all (fun e => z_kw h_kbe e.1 e.2.1 e.2.2)) = true := by
  intro b hb
  rcases (show b = 0 ∨ b = 1 by omega) with rfl | rfl <;> decide +kernel
section HK
variable {l : Launch} {base : Nat} {D : va_G} {sa : Nat → Nat} {ws : va_W} {ts : List Nat}
/-- the bank that was read becomes the bank -/
theorem h_be_new (hA : z_A0 l base D sa) {X : y_X} {jm am rb ln : Nat} {post : Option Value → va_W → List Nat → Prop} (hpost : post = h_pbe jm) (hC : y_C X) (hQ : y_end X post) (hl : y_l X = l ∧ y_b X = base ∧ y_D X = D ∧ y_sa X = sa) (htt : y_tt X = z_tt) (hi : y_i X = 158) (hkw : y_kw X = h_kbe) (hd : y_d X = (10, 0)) (hb : rb < 2) {ws1 : va_W} {ts1 : List Nat} (m1 : (q_ad ws1)[jm]? = some am) (m2 : ts1[jm]? = some 40) (hx : h_nbx jm rb ln ws1 ts1) : Y X 0 104 [some (.ref am), none] [] ws1 ts1 := by
  subst hpost
  have hok := hA.2.1
  have hcl := hA.1
  obtain ⟨rfl, rfl, rfl, rfl⟩ := hl
  have E := y_Ei hok hi (by decide) (cd := q_cd158) rfl
  have hn : (0 : Nat) ≤ (y_d X).2 := Nat.zero_le _
  obtain ⟨hu, wk, ti, wi, dr, c, r, ⟨⟨n35, n7⟩, ⟨n13, n14, n16, n25, n26, n27, n11, n12⟩, nh, nc⟩, k1, k2, k3, k4, k5, k6, k7, k8, k9⟩ := hx
  refine y_ty (fun tys1 hw1 hD1 => ?_)
  rw [htt] at hw1
  obtain ⟨fs1, q1, q2, q3⟩ := h_obj hw1 m1 m2 rfl
  have q1 : ws1[jm]? = some (am, .inr (9, fs1)) := q1
  have q2 : fs1.length = 68 := q2
  refine y_aln hC (E 56 _ rfl) rfl ?_
  refine y_aln hC (E 57 _ rfl) rfl ?_
  refine y_get hcl hC (E 58 _ rfl) q1 (n35.fld q1) ?_
  refine y_put hcl hC (E 59 _ rfl) q1 m2 (by rw [htt]; rfl) ?_ (by omega) (by rw [hkw]; exact h_wrm List.mem_cons_self (by decide) (by decide)) (Or.inl ⟨rfl, _, rfl⟩) ?_
  · rw [htt]
    show z_tv _ ts1 (0, 2147483648, 2147483649) _
    exact h_tvn (by omega) (by omega) (by omega)
  have fr9 := h_setfo (kw := [(40, 2147483682, 2147483682)]) (v := .int (nI rb)) q1 m2 (h_wrm (q := 34) List.mem_cons_self (by decide) (by decide))
  have s1 : (ws1.set jm (am, .inr (9, fs1.set 34 (.int (nI rb)))))[jm]? = some (am, .inr (9, fs1.set 34 (.int (nI rb)))) := List.getElem?_set_self (List.getElem?_eq_some_iff.mp q1).1
  have p34 : h_pl (ws1.set jm (am, .inr (9, fs1.set 34 (.int (nI rb))))) jm 34 (.int (nI rb)) := ⟨am, _, s1, List.getElem?_set_self (by omega)⟩
  have m12 := h_ad s1
  generalize fs1.set 34 (.int (nI rb)) = fs2 at fr9 s1 p34 m12
  generalize ws1.set jm (am, .inr (9, fs2)) = ws2 at fr9 s1 p34 m12
  have k : ∀ q, q ≤ 33 → ¬ z_wr [(40, 2147483682, 2147483682)] 40 q := fun q h2 => h_offs (lo := 0) (hi := 33) rfl q (by omega) h2
  obtain ⟨jc, ac, c1, c2⟩ := n11.fr fr9 m2 (k _ (by omega)) (h_nots rfl _)
  obtain ⟨jr, ar, r1, r2⟩ := n12.fr fr9 m2 (k _ (by omega)) (h_nots rfl _)
  obtain ⟨jw, aw, w1, w2⟩ := n16.fr fr9 m2 (k _ (by omega)) (h_nots rfl _)
  obtain ⟨jh, ah, u1, u2⟩ := nh.fr fr9 m2 (k _ (by omega)) (fun _ _ => h_nots rfl _)
  have n25' := n25.fr fr9 m2 (k _ (by omega)) (h_nots rfl _)
  have hcr : 4 ≤ c * r ∧ c * r ≤ 25 := ⟨Nat.mul_le_mul k6.1 k7.1, Nat.mul_le_mul k6.2 k7.2⟩
  have j1 : h_Jk jm rb (c * r) ws2 ts1 := ⟨m2, hb, p34, hcr, jc, ac, jr, ar, nI c, nI r, ⟨c1, c2⟩, ⟨r1, r2⟩, by rw [z_qnI (by omega)]; omega, by rw [z_qnI (by omega)]; omega, by rw [z_qnI (by omega)]; omega, h_nmul c r⟩
  have j6 : h_Jh jm rb (c * r) ws2 ts1 := ⟨jw, aw, jh, ah, nI wk, ⟨w1, w2⟩, u1, fun w hw hlt => u2 w (by rw [z_qnI (by omega)] at hlt; omega)⟩
  refine y_ty (fun tys2 hw2 hD2 => ?_)
  rw [htt] at hw2
  have jc9 : h_Jc jm ws2 ts1 := h_Jc.new hw2 m12 m2 hb p34 n25' (by
    rcases nc with ⟨e1, -⟩ | ⟨e1, e2⟩
    · exact Or.inl e1
    · exact Or.inr ⟨e1, e2.fr fr9 m2 (k _ (by omega)) (k _ (by omega)) (k _ (by omega)) (h_nots rfl) (h_nots rfl _) (h_nots rfl _)⟩)
  refine y_aln hC (E 60 _ rfl) rfl ?_
  refine y_vir hok hC (E 61 _ rfl) (by decide) (As := []) (rv := []) (dd := (2, 0)) (by rw [htt]; exact h_m_start hA m12 j1 j6) s1 rfl rfl (by rw [hd]; decide) hn h_cat0 (by rw [hkw]; exact h_wsub (fun e he => List.mem_cons_of_mem _ (List.mem_append_right _ (List.mem_append_right _ he)))) (fun v ws3 ts3 hF3 hp => ?_)
  obtain ⟨rfl, j9⟩ := hp
  have jc3 := jc9.fr (by decide) hF3
  have m13 := z_gm hF3.2.1 m12
  have m23 := z_gm hF3.1 m2
  have p343 := p34.fr hF3 m2 (h_offs (lo := 34) (hi := 34) rfl _ (by omega) (by omega))
  refine y_ty (fun tys3 hw3 hD3 => ?_)
  rw [htt] at hw3
  obtain ⟨fs3, t1, t2, t3⟩ := h_obj hw3 m13 m23 rfl
  have t1 : ws3[jm]? = some (am, .inr (9, fs3)) := t1
  obtain ⟨ju, au, cU, fu, v1, v2, v3, -⟩ := h_fa hw3 t2 t3 (k := 16) (t := 51) (u := 0) (by decide) rfl rfl
  have ru : h_row ws3 ts3 fs3 16 51 2 ju au cU fu := ⟨v1, v2, v3⟩
  refine y_aln hC (E 62 _ rfl) rfl ?_
  refine y_get hcl hC (E 63 _ rfl) t1 ru.1 ?_
  refine y_aln hC (E 64 _ rfl) rfl ?_
  refine y_get hcl hC (E 65 _ rfl) t1 (p343.fld t1) ?_
  refine y_ald hC (E 66 _ rfl) ru.2.1 ru.2.2 (by rw [htt]; rfl) hb (by decide) ?_
  exact y_ir hC hQ (E 67 _ rfl) hn ⟨⟨_, rfl⟩, j9, jc3⟩
end HK
