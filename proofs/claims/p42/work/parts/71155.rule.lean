/-! ===== by hand: readRule ===== -/
/-- the new bank's code is whole -/
def h_cw (jm rb : Nat) (ws : va_W) (ts : List Nat) : Prop := ∃ (jk ak cd x : Nat) (fk : Nat → Int32), (h_px ws ts jm 29 61 jk ak ∧ ∀ q, q < 1120 → h_pl ws jk q (.int (fk q))) ∧ h_ln ws ts jm 23 55 rb (nI (560 * rb)) ∧ h_ln ws ts jm 24 56 rb (nI cd) ∧ 560 * rb ≤ cd ∧ cd ≤ 560 * rb + 540 ∧ h_hs fk (560 * rb) (cd - 560 * rb) = some x
theorem h_cw.fr {ws ws' : va_W} {ts ts' : List Nat} {kc : List z_C} {jm rb : Nat} (hf : z_Fr kc ws ts ws' ts') (hm : ts[jm]? = some 40) (k29 : ¬ z_wr kc 40 29) (k23 : ¬ z_wr kc 40 23) (k24 : ¬ z_wr kc 40 24) (k61 : ∀ q, ¬ z_wr kc 61 q) (k55 : ¬ z_wr kc 55 rb) (k56 : ¬ z_wr kc 56 rb) (h : h_cw jm rb ws ts) : h_cw jm rb ws' ts' := by
  obtain ⟨jk, ak, cd, x, fk, ⟨h1, h2⟩, h3, h4, h5⟩ := h
  exact ⟨jk, ak, cd, x, fk, ⟨h1.fr hf hm k29, fun q hq => (h2 q hq).fr hf h1.2.2 (k61 q)⟩, h3.fr hf hm k23 k55, h4.fr hf hm k24 k56, h5⟩
def h_krr (b : Nat) : List z_C := (55, 2147483648 + b, 2147483648 + b) :: (56, 2147483648 + b, 2147483648 + b) :: h_ke b
def h_prr (jm rb : Nat) : Option Value → va_W → List Nat → Prop := fun v ws ts => v = none ∧ h_fb ws jm 7 2147483648 2147485248 ∧ (h_fb ws jm 4 2147483649 4294967295 ∨ h_cw jm rb ws ts)
theorem h_koff {kc : List z_C} {t q : Nat} (h : ∀ e ∈ kc, ¬ (e.1 = t ∧ e.2.1 ≤ 2147483648 + q ∧ 2147483648 + q ≤ e.2.2)) : ¬ z_wr kc t q := fun hq => by
  obtain ⟨e, e1, e2, e3, e4⟩ := z_kw_iff.mp hq
  exact h e e1 ⟨e2, e3, e4⟩
section HK
variable {l : Launch} {base : Nat} {D : va_G} {sa : Nat → Nat} {ws : va_W} {ts : List Nat}
theorem h_m_rule (hA : z_A0 l base D sa) {jm am b : Nat} (hb : b < 2) (hm1 : (q_ad ws)[jm]? = some am) (hm2 : ts[jm]? = some 40) (h35 : h_pl ws jm 35 (.int (nI b))) (h36 : h_pl ws jm 36 (.int (nI (560 * b)))) (h7 : h_fb ws jm 7 2147483648 2147485248) : z_Met l base D sa z_tt (h_krr b) (7, 0) 270 [.ref am, .int (nI 0)] ws ts (h_prr jm b) := by
  have hok := hA.2.1
  have hcl := hA.1
  refine z_ofW (fun tys hw hD => ?_)
  obtain ⟨fs, o1, o2, o3⟩ := h_obj hw hm1 hm2 rfl
  have o1 : ws[jm]? = some (am, .inr (9, fs)) := o1
  have o2 : fs.length = 68 := o2
  obtain ⟨ja, aa, cA, fa, a1, a2, a3, -⟩ := h_fa hw o2 o3 (k := 23) (t := 55) (u := 0) (by decide) rfl rfl
  have ra : h_row ws ts fs 23 55 2 ja aa cA fa := ⟨a1, a2, a3⟩
  have f35 := h35.fld o1
  have f36 := h36.fld o1
  obtain ⟨x7, h71, h72, h73⟩ := h7
  have f7 := h71.fld o1
  obtain ⟨e0, e01, e02, e03⟩ := z_nat h72
  have njm : ¬ ja = jm := h_tne ra.2.2 hm2 (by decide)
  clear hw hD
  refine y_meth (J := fun _ _ => True) (hok 270 (by decide)) (fun v hv => by
    rcases List.mem_cons.mp hv with rfl | hv
    · rfl
    rcases List.mem_singleton.mp hv with rfl
    rfl) (show 2 ≤ 2 by decide) (fun _ _ _ => trivial) ?_
  intro p e s m below meth c X hX hC hQ
  have hi : y_i X = 270 := by rw [hX]
  have htt : y_tt X = z_tt := by rw [hX]
  have hkw : y_kw X = h_krr b := by rw [hX]
  have hl : y_l X = l ∧ y_b X = base ∧ y_D X = D ∧ y_sa X = sa := by rw [hX]; exact ⟨rfl, rfl, rfl, rfl⟩
  have hd : y_d X = (7, 0) := by rw [hX]
  clear hX
  obtain ⟨rfl, rfl, rfl, rfl⟩ := hl
  have E := y_Ei hok hi (by decide) (cd := q_cd270) rfl
  have hn : (0 : Nat) ≤ (y_d X).2 := Nat.zero_le _
  have hk39 : z_wr (y_kw X) 40 39 := by rw [hkw]; exact h_wrm (lo := 2147483687) (hi := 2147483687) (by unfold h_krr h_ke; simp) (by decide) (by decide)
  have hk55 : z_wr (y_kw X) 55 b := by rw [hkw]; exact h_wrm List.mem_cons_self (Nat.le_refl _) (Nat.le_refl _)
  have hk56 : z_wr (y_kw X) 56 b := by rw [hkw]; exact h_wrm (List.mem_cons_of_mem _ List.mem_cons_self) (Nat.le_refl _) (Nat.le_refl _)
  have lm := (List.getElem?_eq_some_iff.mp o1).1
  have la := (List.getElem?_eq_some_iff.mp ra.2.1).1
  show Y X 0 0 [some (.ref am), some (.int (nI 0))] [] ws ts
  refine y_aln hC (E 0 _ rfl) rfl ?_
  refine y_ic hC (E 1 _ rfl) ?_
  refine y_put hcl hC (E 2 _ rfl) o1 hm2 (by rw [htt]; rfl) ?_ (by omega) hk39 (Or.inl ⟨rfl, _, rfl⟩) ?_
  · rw [htt]
    show z_tv _ ts (0, 2147483648, 2147483678) _
    exact h_tvn (by decide) (by decide) (by decide)
  generalize hg : fs.set 39 (.int (nI 0)) = g
  have gl : g.length = 68 := by rw [← hg, List.length_set]; exact o2
  have g23 : g[23]? = some (.ref aa) := by rw [← hg]; exact h_getset ra.1 (by decide)
  have g35 : g[35]? = some (.int (nI b)) := by rw [← hg]; exact h_getset f35 (by decide)
  have g36 : g[36]? = some (.int (nI (560 * b))) := by rw [← hg]; exact h_getset f36 (by decide)
  have g7 : g[7]? = some (.int x7) := by rw [← hg]; exact h_getset f7 (by decide)
  have p1 : (ws.set jm (am, .inr (9, g)))[jm]? = some (am, .inr (9, g)) := List.getElem?_set_self lm
  have pa : (ws.set jm (am, .inr (9, g)))[ja]? = some (aa, .inl (cA, 2, .inl fa)) := h_getset ra.2.1 (fun e => njm e.symm)
  refine y_aln hC (E 3 _ rfl) rfl ?_
  refine y_get hcl hC (E 4 _ rfl) p1 g23 ?_
  refine y_aln hC (E 5 _ rfl) rfl ?_
  refine y_get hcl hC (E 6 _ rfl) p1 g35 ?_
  refine y_iln hC (E 7 _ rfl) rfl ?_
  refine y_add hC (E 8 _ rfl) ?_
  rw [nI_add, Nat.add_zero b]
  refine y_aln hC (E 9 _ rfl) rfl ?_
  refine y_get hcl hC (E 10 _ rfl) p1 g36 ?_
  refine y_ast hC (E 11 _ rfl) pa ra.2.2 (by rw [htt]; rfl) hb (by decide) ?_ hk55 ?_
  · rw [htt]
    show (z_el [(2, 2147483648, 2147484768)] (b % 2)).1 ≤ _ ∧ _ ≤ (z_el [(2, 2147483648, 2147484768)] (b % 2)).2
    rw [h_el25 _ (by decide), z_qnI (by omega)]
    show 2147483648 ≤ 2147483648 + 560 * b ∧ 2147483648 + 560 * b ≤ 2147484768
    omega
  have p2 : ((ws.set jm (am, .inr (9, g))).set ja (aa, .inl (cA, 2, .inl (upd fa b (nI (560 * b))))))[jm]? = some (am, .inr (9, g)) := h_getset p1 njm
  have r2 : h_row ((ws.set jm (am, .inr (9, g))).set ja (aa, .inl (cA, 2, .inl (upd fa b (nI (560 * b)))))) ts g 23 55 2 ja aa cA (upd fa b (nI (560 * b))) := ⟨g23, List.getElem?_set_self (by rw [List.length_set]; exact la), ra.2.2⟩
  have n2 : h_ln ((ws.set jm (am, .inr (9, g))).set ja (aa, .inl (cA, 2, .inl (upd fa b (nI (560 * b)))))) ts jm 23 55 b (nI (560 * b)) := ⟨ja, aa, r2.px p2, by
    have := r2.pl hb
    rw [pk_us] at this
    exact this⟩
  generalize (ws.set jm (am, .inr (9, g))).set ja (aa, .inl (cA, 2, .inl (upd fa b (nI (560 * b))))) = ws2 at p2 n2
  refine y_aln hC (E 12 _ rfl) rfl ?_
  refine y_vir hok hC (E 13 _ rfl) (by decide) (As := []) (rv := []) (dd := (6, 0)) (by rw [htt]; exact h_m_e (J := fun _ _ => True) hok hcl hb (fun _ _ _ => trivial) (r_isWord hA z_JK_T) (r_wordHere hA z_JK_T) (r_misplaced hA z_JK_T) (r_goOn hA z_JK_T) (r_must hA z_JK_T) rfl ⟨p2, hm2, gl⟩ g35 g36 ⟨e0, by rw [g7, e02], by omega⟩) p2 rfl rfl (by rw [hd]; decide) hn h_cat0 (by rw [hkw]; exact h_wsub (fun e he => List.mem_cons_of_mem _ (List.mem_cons_of_mem _ he))) (fun v ws3 ts3 hF3 hp => ?_)
  obtain ⟨rfl, fs3, ⟨q1, q2, q3⟩, hen, hor⟩ := hp
  refine y_ty (fun tys3 hw3 hD3 => ?_)
  rw [htt] at hw3
  have q9 := (h_objt hw3 q1 q2).2
  obtain ⟨jb, ab, cB, fb, b1, b2, b3, -⟩ := h_fa hw3 q3 q9 (k := 24) (t := 56) (u := 0) (by decide) rfl rfl
  have rb9 : h_row ws3 ts3 fs3 24 56 2 jb ab cB fb := ⟨b1, b2, b3⟩
  have f35' : fs3[35]? = some (.int (nI b)) := by
    have := (show h_pl ws2 jm 35 (.int (nI b)) from ⟨am, _, p2, g35⟩).fr hF3 hm2 (h_koff (by
      rcases (show b = 0 ∨ b = 1 by omega) with rfl | rfl <;> decide))
    exact this.fld q1
  obtain ⟨c9, c91, c92⟩ : ∃ c9 : Int32, fs3[36]? = some (.int c9) ∧ 2147483648 ≤ q_qb c9 ∧ q_qb c9 ≤ 2147484768 := by
    cases h9 : fs3[36]? with
    | none => exact absurd (List.getElem?_eq_none_iff.mp h9) (by omega)
    | some v9 =>
      obtain ⟨y, rfl, y1, y2⟩ := h_tvi (show z_tv (q_ad ws3) ts3 (0, 2147483648, 2147484768) v9 from q9 36 v9 h9)
      exact ⟨y, rfl, y1, y2⟩
  refine y_aln hC (E 14 _ rfl) rfl ?_
  refine y_get hcl hC (E 15 _ rfl) q1 rb9.1 ?_
  refine y_aln hC (E 16 _ rfl) rfl ?_
  refine y_get hcl hC (E 17 _ rfl) q1 f35' ?_
  refine y_iln hC (E 18 _ rfl) rfl ?_
  refine y_add hC (E 19 _ rfl) ?_
  rw [nI_add, Nat.add_zero b]
  refine y_aln hC (E 20 _ rfl) rfl ?_
  refine y_get hcl hC (E 21 _ rfl) q1 c91 ?_
  refine y_ast hC (E 22 _ rfl) rb9.2.1 rb9.2.2 (by rw [htt]; rfl) hb (by decide) ?_ hk56 ?_
  · rw [htt]
    show (z_el [(2, 2147483648, 2147484768)] (b % 2)).1 ≤ _ ∧ _ ≤ (z_el [(2, 2147483648, 2147484768)] (b % 2)).2
    rw [h_el25 _ (by decide)]
    exact c92
  have njb : ¬ jb = jm := h_tne rb9.2.2 q2 (by decide)
  have s1 := h_getset (y := (ab, (.inl (cB, 2, .inl (upd fb b c9)) : va_E))) q1 njb
  have fr9 := h_setfr (kw := [(56, 2147483648 + b, 2147483648 + b)]) (v := c9) rb9.2.1 rb9.2.2 (h_wrm (q := b) List.mem_cons_self (Nat.le_refl _) (Nat.le_refl _))
  obtain ⟨e1, e11, e12⟩ := hen
  refine y_vr hC hQ (E 23 _ rfl) hn ⟨rfl, ⟨nI e1, ⟨am, _, s1, e11⟩, by rw [z_qnI (by omega)]; omega, by rw [z_qnI (by omega)]; omega⟩, ?_⟩
  rcases hor with ⟨x, x1, x2⟩ | ⟨-, fk, cd, x, d1, d2, d3, d4, d5, d6, d7⟩
  · left
    obtain ⟨y, hy, y1, y2⟩ := h_tvi (show z_tv (q_ad ws3) ts3 (0, 2147483648, 2147483652) (.int x) from q9 4 _ x1)
    cases hy
    refine ⟨x, ⟨am, _, s1, x1⟩, ?_, q_qb_hi _⟩
    obtain ⟨k, k1, k2, k3⟩ := z_nat y1
    have : ¬ k = 0 := fun e => x2 (by rw [k2, e]; rfl)
    omega
  · right
    rw [c91] at d2
    cases d2
    obtain ⟨jk, ak, cK, gk, rk, gk2⟩ := d4
    have rk9 := rk.set (e := (ab, (.inl (cB, 2, .inl (upd fb b (nI cd))) : va_E))) rb9.2.2 (by decide)
    have r9 := rb9.self (upd fb b (nI cd))
    refine ⟨jk, ak, cd, x, fk, ⟨rk9.px s1, fun q hq => by rw [← gk2 q hq]; exact rk9.pl hq⟩, ?_, ⟨jb, ab, r9.px s1, ?_⟩, d5, d6, d7⟩
    · exact (n2.fr hF3 hm2 (h_koff (by
        rcases (show b = 0 ∨ b = 1 by omega) with rfl | rfl <;> decide)) (h_koff (by
        rcases (show b = 0 ∨ b = 1 by omega) with rfl | rfl <;> decide))).fr fr9 q2 (h_nots rfl _) (h_nots rfl _)
    · have := r9.pl hb
      rw [pk_us] at this
      exact this
end HK
