/-! ===== facts out of J, J out of facts ===== -/
section HJ
variable {ws ws' : va_W} {ts ts' : List Nat} {kc : List z_C} {jm am b N A U : Nat}
theorem h_tvr {ad : List Nat} {j a t : Nat} (h1 : ad[j]? = some a) (h2 : ts[j]? = some t) : z_tv ad ts (1, t, 0) (.ref a) := Or.inr (Or.inl ⟨rfl, j, a, rfl, h1, h2⟩)
theorem h_pl.pf {j k i a : Nat} {v : Value} {t : z_C} {ps : List (Nat × Nat × z_C)} {bv out : List Value} (h : h_pl ws j k v) (ha : (q_ad ws)[j]? = some a) (hb : bv[i]? = some (.ref a)) (ht : z_tv (q_ad ws) ts t v) (hr : z_Pf ws ts ps (bv ++ [v]) out) : z_Pf ws ts ((i, k, t) :: ps) bv out := by
  obtain ⟨a2, e, h1, h2⟩ := h
  have e2 := h_ad h1
  rw [ha] at e2
  cases e2
  exact ⟨a, j, e, v, hb, h1, h2, ht, hr⟩
theorem h_Jk.pf (h : h_Jk jm b N ws ts) (ha : (q_ad ws)[jm]? = some am) {av : List Value} {na : Nat} (hl : av.length = na) (h0 : av[0]? = some (.ref am)) : ∃ (ac : Nat) (xc : Int32), ∀ (ps : List (Nat × Nat × z_C)) (out : List Value), z_Pf ws ts ps (av ++ [.int (nI b), .ref ac, .int xc]) out → z_Pf ws ts (h_bf na b ++ ps) av out := by
  obtain ⟨hm, hb, h34, hN, jc, ac, jr, ar, xc, xr, ⟨c1, c2⟩, -, x1, x2, -, -⟩ := h
  refine ⟨ac, xc, fun ps out hr => ?_⟩
  show z_Pf ws ts ((0, 34, (0, 2147483648 + b, 2147483648 + b)) :: (0, 11, (1, 49, 0)) :: (na + 1, b, (0, 2147483650, 2147483653)) :: ps) av out
  have hn : 0 < av.length := (List.getElem?_eq_some_iff.mp h0).1
  refine h34.pf ha h0 (h_tvn (by omega) (Nat.le_refl _) (Nat.le_refl _)) ?_
  refine c1.1.pf ha (by rw [List.getElem?_append_left hn]; exact h0) (h_tvr c1.2.1 c1.2.2) ?_
  refine c2.pf (a := ac) c1.2.1 ?_ (Or.inl ⟨rfl, xc, rfl, x1, x2⟩) ?_
  · rw [List.getElem?_append_right (by rw [List.length_append]; show av.length + 1 ≤ na + 1; omega), List.length_append]
    show [Value.ref ac][na + 1 - (av.length + 1)]? = _
    rw [show na + 1 - (av.length + 1) = 0 by omega]
    rfl
  · rw [List.append_assoc, List.append_assoc]
    exact hr
theorem h_px.uniq {A : Nat → Prop} (hD : va_D A ws) {k t j a j2 a2 : Nat} (h : h_px ws ts jm k t j a) (g : h_px ws ts jm k t j2 a2) : j2 = j ∧ a2 = a := by
  obtain ⟨am, e, m1, m2⟩ := h.1
  have e1 := g.1.inj m1 m2
  cases e1
  have h2 := h.2.1
  have g2 := g.2.1
  rw [List.getElem?_map] at h2 g2
  cases h9 : ws[j]? with
  | none => rw [h9] at h2; cases h2
  | some q9 =>
    cases g9 : ws[j2]? with
    | none => rw [g9] at g2; cases g2
    | some p9 =>
      rw [h9] at h2
      rw [g9] at g2
      obtain ⟨a9, e9⟩ := q9
      obtain ⟨b9, f9⟩ := p9
      cases h2
      cases g2
      exact ⟨(h_same hD g9 h9).1, rfl⟩
/-- kills that leave all of it alone but the minute -/
def h_kJq (kc : List z_C) : Bool := h_off kc 40 11 12 && (h_off kc 40 16 16 && (h_off kc 40 20 20 && (h_off kc 40 34 34 && (h_off kc 40 41 44 && (h_off kc 40 66 67 && (h_off kc 49 0 1 && (h_off kc 50 0 1 && (h_off kc 51 0 1 && (h_off kc 52 0 9 && (h_off kc 66 0 4 && (h_not kc 67 && (h_not kc 86 && h_not kc 87))))))))))))
theorem h_Jp.fr5 (hk : h_kJq kc = true) (hf : z_Fr kc ws ts ws' ts') (h : h_Jp jm ws ts) (hn : ∀ ja aa, h_px ws ts jm 41 66 ja aa → h_lt ws' ja 435 1000) : h_Jp jm ws' ts' := by
  obtain ⟨a1, hk⟩ := q_ands hk
  obtain ⟨a2, hk⟩ := q_ands hk
  obtain ⟨a3, hk⟩ := q_ands hk
  obtain ⟨a4, hk⟩ := q_ands hk
  obtain ⟨a5, hk⟩ := q_ands hk
  obtain ⟨a6, hk⟩ := q_ands hk
  obtain ⟨a7, hk⟩ := q_ands hk
  obtain ⟨a8, hk⟩ := q_ands hk
  obtain ⟨a9, hk⟩ := q_ands hk
  obtain ⟨b1, hk⟩ := q_ands hk
  obtain ⟨b2, hk⟩ := q_ands hk
  obtain ⟨b3, hk⟩ := q_ands hk
  obtain ⟨b4, b5⟩ := q_ands hk
  obtain ⟨b, N, A, U, h1, h2, h3, h4, h5, h6⟩ := h
  have hm := h1.1
  have hb := h1.2.1
  refine ⟨b, N, A, U, h1.fr hf (h_offs a4 34 (by omega) (by omega)) (h_offs a1 11 (by omega) (by omega)) (h_offs a1 12 (by omega) (by omega)) (h_offs a7 b (by omega) (by omega)) (h_offs a8 b (by omega) (by omega)), h2.fr hf hm (h_offs a5 43 (by omega) (by omega)) (h_offs a5 44 (by omega) (by omega)), ?_, h4.fr hf hm (h_offs a5 42 (by omega) (by omega)) (h_nots b3), h5.fr hf hm (h_offs a6 66 (by omega) (by omega)) (h_offs a6 67 (by omega) (by omega)) (h_nots b4) (h_nots b5), h6.fr hf hm (h_offs a2 16 (by omega) (by omega)) (h_offs a3 20 (by omega) (by omega)) (h_offs a9 b (by omega) (by omega)) (fun w hw => h_offs b1 _ (by omega) (by omega))⟩
  obtain ⟨ja, aa, g1, g2⟩ := h3
  refine ⟨ja, aa, g1.fr hf hm (h_offs a5 41 (by omega) (by omega)), fun w hw => ?_⟩
  rcases hw with hw | rfl
  · exact (g2 w (Or.inl hw)).fr hf g1.2.2 (h_offs b2 w (by omega) (by omega))
  · have e : h_bn N 435 = 1000 := if_neg (by decide)
    rw [e]
    exact hn ja aa g1
/-- a lane that a contract tells of -/
theorem h_lane {P : Nat → Prop} (hD' : va_D P ws') (hf : z_Fr kc ws ts ws' ts') {k t j a i q lo hi : Nat} {bv : List Value} (hx : h_px ws ts jm k t j a) (hb : bv[i]? = some (.ref a)) (h : ∃ (a j : Nat) (e : va_E) (r : Value), bv[i]? = some (.ref a) ∧ ws'[j]? = some (a, e) ∧ z_at e q = some r ∧ z_tv (q_ad ws') ts' (0, lo, hi) r) : ∃ v : Int32, h_pl ws' j q (.int v) ∧ lo ≤ q_qb v ∧ q_qb v ≤ hi := by
  obtain ⟨a2, j2, e, r, g1, g2, g3, g4⟩ := h
  rw [hb] at g1
  cases g1
  have h2 := z_gm hf.2.1 hx.2.1
  rw [List.getElem?_map] at h2
  cases h9 : ws'[j]? with
  | none => rw [h9] at h2; cases h2
  | some q9 =>
    rw [h9] at h2
    obtain ⟨a9, e9⟩ := q9
    cases h2
    obtain ⟨rfl, rfl⟩ := h_same hD' g2 h9
    obtain ⟨x, rfl, x1, x2⟩ := h_tvi g4
    exact ⟨x, ⟨_, _, g2, g3⟩, x1, x2⟩
end HJ
