/-! ===== by hand: keepAct ===== -/
theorem h_nmul (a b : Nat) : nI a * nI b = nI (a * b) := (Int32.ofNat_mul a b).symm
def h_kkeep : List z_C := [(67, 2147483648, 2147501605), (40, 2147483691, 2147483692)]
section HK
variable {l : Launch} {base : Nat} {D : va_G} {sa : Nat → Nat} {ws : va_W} {ts : List Nat}
theorem h_m_keep (hok : ∀ i, i < q_nM → q_mok i) (hcl : q_clok) {jm am : Nat} (hm1 : (q_ad ws)[jm]? = some am) (hj : h_Jp jm ws ts) : z_Met l base D sa z_tt h_kkeep (0, 0) 122 [.ref am] ws ts (fun v ws' ts' => v = none ∧ h_Jp jm ws' ts') := by
  refine z_ofW (fun tys hw hD => ?_)
  obtain ⟨b, N, A, U, j1, j2, j3, j4, j5, j6⟩ := id hj
  have hm2 := j1.1
  obtain ⟨fs, o1, o2, o3⟩ := h_obj hw hm1 hm2 rfl
  have o1 : ws[jm]? = some (am, .inr (9, fs)) := o1
  have o2 : fs.length = 68 := o2
  obtain ⟨ja, aa, a1, a2⟩ := j3
  obtain ⟨jw, aw, w1, w2⟩ := j4
  obtain ⟨cA, fa, ra⟩ := a1.see hw o1 rfl
  obtain ⟨cW, fw, rw0⟩ := w1.see hw o1 rfl
  have ra : h_row ws ts fs 41 66 438 ja aa cA fa := ra
  have rw0 : h_row ws ts fs 42 67 17958 jw aw cW fw := rw0
  have hA := j2.1.fld o1
  have hU := j2.2.1.fld o1
  have hAU := j2.2.2
  have ga : ∀ w, (w < 5 ∨ w = 435) → q_qb (fa w) < 2147483648 + h_bn N w := fun w hw => ra.lt (by omega) (a2 w hw)
  have gw : ∀ k w, k < A + U → (w < 5 ∨ w = 435) → q_qb (fw (438 * k + w)) < 2147483648 + h_bn N w := fun k w hk hw => rw0.lt (by omega) (w2 k w hk hw)
  have njm : ¬ jw = jm := h_tne rw0.2.2 hm2 (by decide)
  have nja : ¬ jw = ja := h_tne rw0.2.2 ra.2.2 (by decide)
  have njb : ¬ jm = ja := h_tne hm2 ra.2.2 (by decide)
  clear hw hD
  refine y_meth (J := fun _ _ => True) (hok 122 (by decide)) (fun v hv => by rcases List.mem_singleton.mp hv with rfl; rfl) (show 1 ≤ 2 by decide) (fun _ _ _ => trivial) ?_
  intro p e s m below meth c X hX hC hQ
  have hi : y_i X = 122 := by rw [hX]
  have htt : y_tt X = z_tt := by rw [hX]
  have hkw : y_kw X = h_kkeep := by rw [hX]
  have hw0 : y_w0 X = ws := by rw [hX]
  have ht0 : y_t0 X = ts := by rw [hX]
  clear hX
  have E := y_Ei hok hi (by decide) (cd := q_cd122) rfl
  -- the world
  have key : ∃ Wd : (Nat → Int32) → List Value → va_W, Wd fw fs = ws ∧ (∀ f g, (Wd f g)[jm]? = some (am, .inr (9, g))) ∧ (∀ f g, (Wd f g)[jw]? = some (aw, .inl (cW, 17958, .inl f))) ∧ (∀ f g, (Wd f g)[ja]? = some (aa, .inl (cA, 438, .inl fa))) ∧ (∀ f g h, (Wd f g).set jw (aw, .inl (cW, 17958, .inl h)) = Wd h g) ∧ (∀ f g h, (Wd f g).set jm (am, .inr (9, h)) = Wd f h) := by
    have s1 : ∀ {α : Type} (l : List α) (i : Nat) (x : α), l[i]? = some x → l.set i x = l := fun l i x hx => by
      refine List.ext_getElem? (fun k => ?_)
      by_cases ek : i = k
      · subst ek
        rw [List.getElem?_set_self (List.getElem?_eq_some_iff.mp hx).1, hx]
      · rw [List.getElem?_set_ne ek]
    have lm := (List.getElem?_eq_some_iff.mp o1).1
    have lw := (List.getElem?_eq_some_iff.mp rw0.2.1).1
    refine ⟨fun f g => (ws.set jw (aw, .inl (cW, 17958, .inl f))).set jm (am, .inr (9, g)), ?_, fun f g => ?_, fun f g => ?_, fun f g => ?_, fun f g h => ?_, fun f g h => ?_⟩
    · show (ws.set jw (aw, .inl (cW, 17958, .inl fw))).set jm (am, .inr (9, fs)) = ws
      rw [s1 ws jw _ rw0.2.1, s1 ws jm _ o1]
    · exact List.getElem?_set_self (by rw [List.length_set]; exact lm)
    · exact h_getset (List.getElem?_set_self lw) (fun e => njm e.symm)
    · exact h_getset (h_getset ra.2.1 nja) njb
    · show (((ws.set jw (aw, .inl (cW, 17958, .inl f))).set jm (am, .inr (9, g))).set jw (aw, .inl (cW, 17958, .inl h))) = _
      rw [List.set_comm _ _ (fun e => njm e.symm), List.set_set]
    · exact List.set_set ..
  obtain ⟨Wd, e0, gm, gj, gA, sw, sm⟩ := key
  have hwr : ∀ q, q < 17958 → z_wr (y_kw X) 67 q := fun q hq => by rw [hkw]; exact h_wrm List.mem_cons_self (by omega) (by omega)
  have hwm : ∀ q, 43 ≤ q → q ≤ 44 → z_wr (y_kw X) 40 q := fun q h1 h2 => by rw [hkw]; exact h_wrm (List.mem_cons_of_mem _ (List.mem_singleton.mpr rfl)) (by omega) (by omega)
  -- the end
  have fin : ∀ (f : Nat → Int32) (g : List Value) (A1 : Nat), A1 < 40 → g.length = 68 → g[42]? = some (.ref aw) → g[41]? = some (.ref aa) → g[43]? = some (.int (nI A1)) → (∀ k w, k < A1 + 1 → (w < 5 ∨ w = 435) → q_qb (f (438 * k + w)) < 2147483648 + h_bn N w) → Y X 0 86 [some (.ref am), some (.int (nI 438))] [] (Wd f g) ts := by
    intro f g A1 hA1 hg g42 g41 g43 hf
    refine y_aln hC (E 47 _ rfl) rfl ?_
    refine y_dup hC (E 48 _ rfl) rfl ?_
    refine y_get hcl hC (E 49 _ rfl) (gm f g) g43 ?_
    refine y_ic hC (E 50 _ rfl) ?_
    refine y_add hC (E 51 _ rfl) ?_
    rw [nI_add]
    refine y_put hcl hC (E 52 _ rfl) (gm f g) hm2 (by rw [htt]; rfl) ?_ (by omega) (hwm 43 (by omega) (by omega)) (Or.inl ⟨rfl, _, rfl⟩) ?_
    · rw [htt]
      show z_tv _ ts (0, 2147483648, 2147483688) _
      exact h_tvn (by omega) (by omega) (by omega)
    rw [sm]
    refine y_aln hC (E 53 _ rfl) rfl ?_
    refine y_ic hC (E 54 _ rfl) ?_
    refine y_put hcl hC (E 55 _ rfl) (gm f _) hm2 (by rw [htt]; rfl) ?_ (by rw [List.length_set]; omega) (hwm 44 (by omega) (by omega)) (Or.inl ⟨rfl, _, rfl⟩) ?_
    · rw [htt]
      show z_tv _ ts (0, 2147483648, 2147483688) _
      exact h_tvn (by decide) (by decide) (by decide)
    rw [sm]
    refine y_tyJ hC (fun tys hw hD _ hF => ?_)
    rw [hkw, hw0, ht0] at hF
    refine y_vr hC hQ (E 56 _ rfl) (Nat.zero_le _) ⟨rfl, b, N, A1 + 1, 0, ?_, ⟨?_, ?_, by omega⟩, ?_, ?_, ?_, ?_⟩
    · exact j1.fr hF (h_offs (lo := 34) (hi := 34) rfl _ (by omega) (by omega)) (h_offs (lo := 11) (hi := 11) rfl _ (by omega) (by omega)) (h_offs (lo := 12) (hi := 12) rfl _ (by omega) (by omega)) (h_nots rfl _) (h_nots rfl _)
    · exact ⟨am, _, gm f _, by show (List.set _ 44 _)[43]? = _; exact h_getset (List.getElem?_set_self (by omega)) (by decide)⟩
    · exact ⟨am, _, gm f _, by show (List.set _ 44 _)[44]? = _; exact List.getElem?_set_self (by rw [List.length_set]; omega)⟩
    · exact (show h_Ja jm N ws ts from ⟨ja, aa, a1, a2⟩).fr hF hm2 (h_offs (lo := 41) (hi := 41) rfl _ (by omega) (by omega)) (fun w _ => h_nots rfl _)
    · have r9 : h_row (Wd f ((g.set 43 (.int (nI (A1 + 1)))).set 44 (.int (nI 0)))) ts ((g.set 43 (.int (nI (A1 + 1)))).set 44 (.int (nI 0))) 42 67 17958 jw aw cW f := ⟨h_getset (h_getset g42 (by decide)) (by decide), gj f _, rw0.2.2⟩
      exact ⟨jw, aw, r9.px (gm f _), fun k w hk hw => r9.mk (by omega) (hf k w (by omega) hw)⟩
    · exact j5.fr hF hm2 (h_offs (lo := 66) (hi := 66) rfl _ (by omega) (by omega)) (h_offs (lo := 67) (hi := 67) rfl _ (by omega) (by omega)) (h_nots rfl) (h_nots rfl)
    · exact j6.fr hF hm2 (h_offs (lo := 16) (hi := 16) rfl _ (by omega) (by omega)) (h_offs (lo := 20) (hi := 20) rfl _ (by omega) (by omega)) (h_nots rfl _) (fun w _ => h_nots rfl _)
  -- the copy
  have copy : ∀ (m c : Nat) (f : Nat → Int32) (g : List Value) (A1 : Nat), 438 - c = m → c ≤ 438 → A1 < 40 → g.length = 68 → g[42]? = some (.ref aw) → g[41]? = some (.ref aa) → g[43]? = some (.int (nI A1)) → (∀ k w, k < A1 → (w < 5 ∨ w = 435) → q_qb (f (438 * k + w)) < 2147483648 + h_bn N w) → (∀ w, (w < 5 ∨ w = 435) → w < c → q_qb (f (438 * A1 + w)) < 2147483648 + h_bn N w) → Y X 0 52 [some (.ref am), some (.int (nI c))] [] (Wd f g) ts := by
    intro m
    induction m with
    | zero =>
      intro c f g A1 hm hc hA1 hg g42 g41 g43 hf hf2
      have e : c = 438 := by omega
      subst e
      refine y_iln hC (E 29 _ rfl) rfl ?_
      refine y_sp hC (E 30 _ rfl) ?_
      refine y_cmp hC (E 31 _ rfl) (fun _ => ?_) (fun h => ?_)
      · refine fin f g A1 hA1 hg g42 g41 g43 (fun k w hk hw => ?_)
        by_cases ek : k = A1
        · subst ek
          exact hf2 w hw (by omega)
        · exact hf k w (by omega) hw
      · exact absurd h (nI_nlt (Nat.le_refl _) (by omega))
    | succ m IH =>
      intro c f g A1 hm hc hA1 hg g42 g41 g43 hf hf2
      have hlt : c < 438 := by omega
      refine y_iln hC (E 29 _ rfl) rfl ?_
      refine y_sp hC (E 30 _ rfl) ?_
      refine y_cmp hC (E 31 _ rfl) (fun h => ?_) (fun _ => ?_)
      · exact absurd h (nI_ge hlt (by omega))
      refine y_ty (fun tys hw hD => ?_)
      rw [htt] at hw
      have ty := h_typ hw (gA f g) ra.2.2 rfl c hlt
      refine y_aln hC (E 32 _ rfl) rfl ?_
      refine y_get hcl hC (E 33 _ rfl) (gm f g) g42 ?_
      refine y_sp hC (E 34 _ rfl) ?_
      refine y_aln hC (E 35 _ rfl) rfl ?_
      refine y_get hcl hC (E 36 _ rfl) (gm f g) g43 ?_
      refine y_mul hC (E 37 _ rfl) ?_
      rw [h_nmul]
      refine y_iln hC (E 38 _ rfl) rfl ?_
      refine y_add hC (E 39 _ rfl) ?_
      rw [nI_add]
      refine y_aln hC (E 40 _ rfl) rfl ?_
      refine y_get hcl hC (E 41 _ rfl) (gm f g) g41 ?_
      refine y_iln hC (E 42 _ rfl) rfl ?_
      refine y_ald hC (E 43 _ rfl) (gA f g) ra.2.2 (by rw [htt]; rfl) hlt (by decide) ?_
      refine y_ast hC (E 44 _ rfl) (gj f g) rw0.2.2 (by rw [htt]; rfl) (show 438 * A1 + c < 17958 by omega) (by decide) ?_ (hwr _ (by omega)) ?_
      · rw [htt]
        have e9 : (438 * A1 + c) % 438 = c % 438 := Nat.mul_add_mod 438 A1 c
        show (z_el (z_tt 67).2.2.1 ((438 * A1 + c) % 438)).1 ≤ _ ∧ _ ≤ (z_el (z_tt 67).2.2.1 ((438 * A1 + c) % 438)).2
        rw [e9]
        exact ty
      rw [sw]
      refine y_ii hC (E 45 _ rfl) rfl ?_
      refine y_go hC (E 46 _ rfl) ?_
      have := IH (c + 1) (upd f (438 * A1 + c) (fa c)) g A1 (by omega) (by omega) hA1 hg g42 g41 g43 (fun k w hk hw => by
        rw [pk_un (by omega)]
        exact hf k w hk hw) (fun w hw hwc => by
        by_cases ek : w = c
        · subst ek
          rw [pk_us]
          exact ga w hw
        · rw [pk_un (by omega)]
          exact hf2 w hw (by omega))
      rw [nI_succ] at this
      exact this
  -- the shift
  have shift : ∀ (m c : Nat) (f : Nat → Int32), 17520 - c = m → c ≤ 17520 → A = 40 → (∀ k w, k < 40 → (w < 5 ∨ w = 435) → (k < 39 ∨ c ≤ 438 * k + w) → q_qb (f (438 * k + w)) < 2147483648 + h_bn N w) → Y X 0 11 [some (.ref am), some (.int (nI c))] [] (Wd f fs) ts := by
    intro m
    induction m with
    | zero =>
      intro c f hm hc hA4 hf
      subst hA4
      have e : c = 17520 := by omega
      subst e
      refine y_iln hC (E 6 _ rfl) rfl ?_
      refine y_sp hC (E 7 _ rfl) ?_
      refine y_cmp hC (E 8 _ rfl) (fun _ => ?_) (fun h => ?_)
      · refine y_aln hC (E 21 _ rfl) rfl ?_
        refine y_dup hC (E 22 _ rfl) rfl ?_
        refine y_get hcl hC (E 23 _ rfl) (gm f fs) hA ?_
        refine y_ic hC (E 24 _ rfl) ?_
        refine y_sub hC (E 25 _ rfl) ?_
        have e39 : nI 40 - nI 1 = nI 39 := by decide +kernel
        rw [e39]
        refine y_put hcl hC (E 26 _ rfl) (gm f fs) hm2 (by rw [htt]; rfl) ?_ (by omega) (hwm 43 (by omega) (by omega)) (Or.inl ⟨rfl, _, rfl⟩) ?_
        · rw [htt]
          show z_tv _ ts (0, 2147483648, 2147483688) _
          exact h_tvn (by decide) (by decide) (by decide)
        rw [sm]
        refine y_ic hC (E 27 _ rfl) ?_
        refine y_isn hC (E 28 _ rfl) ?_
        exact copy (438 - 0) 0 f (fs.set 43 (.int (nI 39))) 39 rfl (by decide) (by decide) (by rw [List.length_set]; exact o2) (h_getset rw0.1 (by decide)) (h_getset ra.1 (by decide)) (List.getElem?_set_self (by omega)) (fun k w hk hw => hf k w (by omega) hw (Or.inl hk)) (fun w _ h => absurd h (Nat.not_lt_zero _))
      · exact absurd h (nI_nlt (Nat.le_refl _) (by omega))
    | succ m IH =>
      intro c f hm hc hA4 hf
      have hlt : c < 17520 := by omega
      refine y_iln hC (E 6 _ rfl) rfl ?_
      refine y_sp hC (E 7 _ rfl) ?_
      refine y_cmp hC (E 8 _ rfl) (fun h => ?_) (fun _ => ?_)
      · exact absurd h (nI_ge hlt (by omega))
      refine y_ty (fun tys hw hD => ?_)
      rw [htt] at hw
      have ty := h_typ hw (gj f fs) rw0.2.2 rfl (c + 438) (show c + 438 < 17958 by omega)
      refine y_aln hC (E 9 _ rfl) rfl ?_
      refine y_get hcl hC (E 10 _ rfl) (gm f fs) rw0.1 ?_
      refine y_iln hC (E 11 _ rfl) rfl ?_
      refine y_aln hC (E 12 _ rfl) rfl ?_
      refine y_get hcl hC (E 13 _ rfl) (gm f fs) rw0.1 ?_
      refine y_iln hC (E 14 _ rfl) rfl ?_
      refine y_sp hC (E 15 _ rfl) ?_
      refine y_add hC (E 16 _ rfl) ?_
      rw [nI_add]
      refine y_ald hC (E 17 _ rfl) (gj f fs) rw0.2.2 (by rw [htt]; rfl) (show c + 438 < 17958 by omega) (by decide) ?_
      refine y_ast hC (E 18 _ rfl) (gj f fs) rw0.2.2 (by rw [htt]; rfl) (show c < 17958 by omega) (by decide) ?_ (hwr _ (by omega)) ?_
      · rw [htt]
        have e9 : (c + 438) % 438 = c % 438 := Nat.add_mod_right c 438
        show (z_el (z_tt 67).2.2.1 (c % 438)).1 ≤ _ ∧ _ ≤ (z_el (z_tt 67).2.2.1 (c % 438)).2
        rw [← e9]
        exact ty
      rw [sw]
      refine y_ii hC (E 19 _ rfl) rfl ?_
      refine y_go hC (E 20 _ rfl) ?_
      have := IH (c + 1) (upd f c (f (c + 438))) (by omega) (by omega) hA4 (fun k w hk hw hc2 => by
        by_cases ek : 438 * k + w = c
        · rw [ek, pk_us]
          have := hf (k + 1) w (by omega) hw (by omega)
          rw [show 438 * (k + 1) + w = c + 438 by omega] at this
          exact this
        · rw [pk_un ek]
          exact hf k w hk hw (by omega))
      rw [nI_succ] at this
      exact this
  show Y X 0 0 [some (.ref am), none] [] ws ts
  rw [← e0]
  refine y_aln hC (E 0 _ rfl) rfl ?_
  refine y_get hcl hC (E 1 _ rfl) (gm fw fs) hA ?_
  refine y_bp hC (E 2 _ rfl) ?_
  refine y_cmp hC (E 3 _ rfl) (fun h => ?_) (fun h => ?_)
  · have h : ¬ nI A = nI 40 := h
    have hne : ¬ A = 40 := fun e => h (by rw [e])
    refine y_ic hC (E 27 _ rfl) ?_
    refine y_isn hC (E 28 _ rfl) ?_
    exact copy (438 - 0) 0 fw fs A rfl (by decide) (by omega) o2 rw0.1 ra.1 hA (fun k w hk hw => gw k w (by omega) hw) (fun w _ h => absurd h (Nat.not_lt_zero _))
  · have h : nI A = nI 40 := h
    have e4 : A = 40 := (nI_eq (by omega) (by decide)).mp h
    refine y_ic hC (E 4 _ rfl) ?_
    refine y_isn hC (E 5 _ rfl) ?_
    exact shift (17520 - 0) 0 fw rfl (by decide) e4 (fun k w hk hw _ => gw k w (by omega) hw)
end HK
