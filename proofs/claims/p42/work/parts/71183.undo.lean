/-! ===== the class's undo, redo; later of both ===== -/
section HO
variable {l : Launch} {base : Nat} {D : va_G} {sa : Nat → Nat} {ws : va_W} {ts : List Nat} {jx ax jm am Tx Tm : Nat}
theorem h_yfin {kc : List z_C} {ws' : va_W} {ts' : List Nat} {P : Nat → Prop} {ji ai A' V : Nat} {bv : List Value} (hD : va_D P ws') (hf : z_Fr kc ws ts ws' ts') (hj0 : ts[jx]? = some 0) (h1 : h_px ws ts jx 7 25 ji ai) (k7 : ¬ z_wr kc 0 7) (bn : bv[1]? = some (.ref ai)) (c1 : ∃ (a j : Nat) (e : va_E) (r : Value), bv[1]? = some (.ref a) ∧ ws'[j]? = some (a, e) ∧ z_at e 2 = some r ∧ z_tv (q_ad ws') ts' (0, 2147483648 + A', 2147483648 + A') r) (c2 : ∃ (a j : Nat) (e : va_E) (r : Value), bv[1]? = some (.ref a) ∧ ws'[j]? = some (a, e) ∧ z_at e 3 = some r ∧ z_tv (q_ad ws') ts' (0, 2147483648, 2147483648 + V) r) (hs : A' + V ≤ 40) : h_Jy jx ws' ts' := by
  obtain ⟨v2, u1, u2, u3⟩ := h_lane hD hf (jm := jx) h1 bn c1
  obtain ⟨v3, w1, w2, w3⟩ := h_lane hD hf (jm := jx) h1 bn c2
  rw [h_qv (n := A') (by omega) (y := v2) (by omega)] at u1
  obtain ⟨k, k1, rfl, k3⟩ := z_nat w2
  exact ⟨z_gm hf.1 hj0, ji, ai, A', k, h1.fr0 hf hj0 k7, u1, w1, by omega⟩
theorem h_m_undox (hA : z_A0 l base D sa) (hx1 : (q_ad ws)[jx]? = some ax) (hj : h_Jy jx ws ts) : z_Met l base D sa z_tt z_ky_undo (3, 0) 170 [.ref ax] ws ts (h_pv (h_Jy jx)) := by
  obtain ⟨hj0, ji, ai, A, U, h1, h2, h3, h4⟩ := hj
  have hcon : z_Con l base D sa z_tt (fun _ _ => True) (z_my_undo A 0 (40 - A) (A - 1) (bif Nat.beq A 0 then 40 else 41 - A)) := z_mkr hA z_p0 (fun _ _ _ _ _ _ => trivial) (show 170 < q_nM by decide) (z_kk_undo A (by omega))
  have hpf : z_Pf ws ts (z_my_undo A 0 (40 - A) (A - 1) (bif Nat.beq A 0 then 40 else 41 - A)).2.2.1 [.ref ax] [.ref ax, .ref ai, .int (nI A), .int (nI U)] := h1.1.pf hx1 rfl (h_tvr h1.2.1 h1.2.2) (h2.pf h1.2.1 rfl (h_tvn (by omega) (Nat.le_refl _) (Nat.le_refl _)) (h3.pf h1.2.1 rfl (h_tvn (by omega) (by omega) (by omega)) rfl))
  refine (hcon ws ts [.ref ax] _ ⟨h_tvr hx1 hj0, trivial⟩ hpf trivial).imp2 (fun v ws' tys' ts' hw hD hf hcp => ?_)
  refine ⟨h_cpv rfl rfl hcp, ?_⟩
  refine h_yfin (bv := [.ref ax, .ref ai, .int (nI A), .int (nI U)]) hD hf hj0 h1 (h_offs (lo := 7) (hi := 7) rfl _ (by omega) (by omega)) rfl (hcp.2 _ List.mem_cons_self) (hcp.2 _ (List.mem_cons_of_mem _ List.mem_cons_self)) ?_
  cases hb : Nat.beq A 0 with
  | true =>
    have := q_beq.mp hb
    show A - 1 + 40 ≤ 40
    omega
  | false =>
    have : ¬ A = 0 := fun e => by
      rw [q_beq.mpr e] at hb
      cases hb
    show A - 1 + (41 - A) ≤ 40
    omega
theorem h_m_redox (hA : z_A0 l base D sa) (hx1 : (q_ad ws)[jx]? = some ax) (hj : h_Jy jx ws ts) : z_Met l base D sa z_tt z_ky_redo (3, 0) 172 [.ref ax] ws ts (h_pv (h_Jy jx)) := by
  obtain ⟨hj0, ji, ai, A, U, h1, h2, h3, h4⟩ := hj
  have pf : ∀ {u0 u1 b0 v1 : Nat}, u0 ≤ U → U ≤ u1 → z_Pf ws ts (z_my_redo A u0 u1 b0 v1).2.2.1 [.ref ax] [.ref ax, .ref ai, .int (nI A), .int (nI U)] := fun e1 e2 => h1.1.pf hx1 rfl (h_tvr h1.2.1 h1.2.2) (h2.pf h1.2.1 rfl (h_tvn (by omega) (Nat.le_refl _) (Nat.le_refl _)) (h3.pf h1.2.1 rfl (h_tvn (by omega) (by omega) (by omega)) rfl))
  have fin : ∀ {u0 u1 b0 v1 : Nat}, z_Con l base D sa z_tt (fun _ _ => True) (z_my_redo A u0 u1 b0 v1) → u0 ≤ U → U ≤ u1 → b0 + v1 ≤ 40 → z_Met l base D sa z_tt z_ky_redo (3, 0) 172 [.ref ax] ws ts (h_pv (h_Jy jx)) := fun hcon e1 e2 e3 => (hcon ws ts [.ref ax] _ ⟨h_tvr hx1 hj0, trivial⟩ (pf e1 e2) trivial).imp2 (fun v ws' tys' ts' hw hD hf hcp => ⟨h_cpv rfl rfl hcp, h_yfin (bv := [.ref ax, .ref ai, .int (nI A), .int (nI U)]) hD hf hj0 h1 (h_offs (lo := 7) (hi := 7) rfl _ (by omega) (by omega)) rfl (hcp.2 _ List.mem_cons_self) (hcp.2 _ (List.mem_cons_of_mem _ List.mem_cons_self)) e3⟩)
  by_cases hU : U = 0
  · exact fin (u0 := 0) (u1 := 0) (b0 := A) (v1 := 0) (z_mkr hA z_p0 (fun _ _ _ _ _ _ => trivial) (show 172 < q_nM by decide) (z_kk_redo A (by omega))) (by omega) (by omega) (by omega)
  · exact fin (u0 := 1) (u1 := 40 - A) (b0 := A + 1) (v1 := 39 - A) (z_mkr hA z_p0 (fun _ _ _ _ _ _ => trivial) (show 172 < q_nM by decide) (z_kk_redo1 A (by omega))) (by omega) (by omega) (by omega)
/-- what later answers, and the time behind it -/
def h_lk (T : Nat) (v : Int32) : Option Nat := if 2147483648 ≤ q_qb v ∧ q_qb v ≤ 2147484648 ∧ T + (q_qb v - 2147483648) ≤ 100000 then some (T + (q_qb v - 2147483648)) else none
def h_lan (T : Nat) (v : Int32) : Value := match h_lk T v with
  | none => .int (nI 4294967295)
  | some n => .int (nI n)
def h_lti (T : Nat) (v : Int32) : Nat := match h_lk T v with
  | none => T
  | some n => n
theorem h_lk_no {T : Nat} {v : Int32} (h : ¬ (2147483648 ≤ q_qb v ∧ q_qb v ≤ 2147484648 ∧ T + (q_qb v - 2147483648) ≤ 100000)) : h_lan T v = .int (nI 4294967295) ∧ h_lti T v = T := by
  unfold h_lan h_lti h_lk
  rw [if_neg h]
  exact ⟨rfl, rfl⟩
theorem h_lk_yes {T : Nat} {k : Nat} (hk : k ≤ 1000) (hT : T + k ≤ 100000) : h_lan T (nI k) = .int (nI (T + k)) ∧ h_lti T (nI k) = T + k := by
  have e : q_qb (nI k) = 2147483648 + k := z_qnI (by omega)
  unfold h_lan h_lti h_lk
  rw [if_pos (by rw [e]; omega), e, show 2147483648 + k - 2147483648 = k by omega]
  exact ⟨rfl, rfl⟩
theorem h_m_latx (hA : z_A0 l base D sa) {T : Nat} (hT : T ≤ 100000) (hx1 : (q_ad ws)[jx]? = some ax) (hx2 : ts[jx]? = some 0) (ht : h_pl ws jx 12 (.int (nI T))) (v : Int32) : z_Met l base D sa z_tt [(0, 2147483660, 2147483660)] (0, 0) 103 [.ref ax, .int v] ws ts (fun r ws' _ => r = some (h_lan T v) ∧ h_pl ws' jx 12 (.int (nI (h_lti T v)))) := by
  have hok := hA.2.1
  have hcl := hA.1
  refine z_ofW (fun tys hw hD => ?_)
  obtain ⟨fs, o1, o2, o3⟩ := h_obj hw hx1 hx2 rfl
  have o1 : ws[jx]? = some (ax, .inr (8, fs)) := o1
  have o2 : fs.length = 13 := o2
  have f12 : fs[12]? = some (.int (nI T)) := by
    obtain ⟨a2, e3, q1, q2⟩ := ht
    rw [o1] at q1
    cases q1
    exact q2
  clear hw hD
  refine y_meth (J := fun _ _ => True) (hok 103 (by decide)) (fun v hv => by
    rcases List.mem_cons.mp hv with rfl | hv
    · rfl
    rcases List.mem_singleton.mp hv with rfl
    rfl) (show 2 ≤ 2 by decide) (fun _ _ _ => trivial) ?_
  intro p e s m below meth c X hX hC hQ
  have hi : y_i X = 103 := by rw [hX]
  have htt : y_tt X = z_tt := by rw [hX]
  have hkw : y_kw X = [(0, 2147483660, 2147483660)] := by rw [hX]
  clear hX
  have E := y_Ei hok hi (by decide) (cd := q_cd103) rfl
  have hn : (0 : Nat) ≤ (y_d X).2 := Nat.zero_le _
  show Y X 0 0 [some (.ref ax), some (.int v)] [] ws ts
  have no : ¬ (2147483648 ≤ q_qb v ∧ q_qb v ≤ 2147484648 ∧ T + (q_qb v - 2147483648) ≤ 100000) → Y X 0 23 [some (.ref ax), some (.int v)] [] ws ts := fun hno => by
    refine y_ic hC (E 11 _ rfl) ?_
    exact y_ir hC hQ (E 12 _ rfl) hn ⟨by rw [(h_lk_no hno).1], by rw [(h_lk_no hno).2]; exact ht⟩
  refine y_iln hC (E 0 _ rfl) rfl ?_
  refine y_if hC (E 1 _ rfl) (fun h => ?_) (fun h => ?_)
  · have h : v < 0 := h
    have h := (q_lt_iff _ _).mp h
    rw [z_qb0] at h
    exact no (by omega)
  have h : (0 : Int32) ≤ v := h
  have h := (q_le_iff _ _).mp h
  rw [z_qb0] at h
  refine y_iln hC (E 2 _ rfl) rfl ?_
  refine y_sp hC (E 3 _ rfl) ?_
  refine y_cmp hC (E 4 _ rfl) (fun h2 => ?_) (fun h2 => ?_)
  · have h2 : nI 1000 < v := h2
    have h2 := (q_lt_iff _ _).mp h2
    rw [z_qnI (by decide)] at h2
    exact no (by omega)
  have h2 : v ≤ nI 1000 := h2
  have h2 := (q_le_iff _ _).mp h2
  rw [z_qnI (by decide)] at h2
  obtain ⟨k, k1, k2, k3⟩ := z_nat h
  have hk : k ≤ 1000 := by omega
  refine y_aln hC (E 5 _ rfl) rfl ?_
  refine y_get hcl hC (E 6 _ rfl) o1 f12 ?_
  refine y_iln hC (E 7 _ rfl) rfl ?_
  refine y_add hC (E 8 _ rfl) ?_
  refine y_lw hC (E 9 _ rfl) (by decide) ?_
  refine y_cmp hC (E 10 _ rfl) (fun h3 => ?_) (fun h3 => ?_)
  · have h3 : nI T + v ≤ nI 100000 := h3
    rw [k2, nI_add] at h3
    have h3 := (q_le_iff _ _).mp h3
    rw [z_qnI (by omega), z_qnI (by omega)] at h3
    obtain ⟨y1, y2⟩ := h_lk_yes (T := T) hk (by omega)
    subst k2
    refine y_aln hC (E 13 _ rfl) rfl ?_
    refine y_dup hC (E 14 _ rfl) rfl ?_
    refine y_get hcl hC (E 15 _ rfl) o1 f12 ?_
    refine y_iln hC (E 16 _ rfl) rfl ?_
    refine y_add hC (E 17 _ rfl) ?_
    rw [nI_add]
    refine y_put hcl hC (E 18 _ rfl) o1 hx2 (by rw [htt]; rfl) ?_ (by omega) (by rw [hkw]; exact h_wrm List.mem_cons_self (by decide) (by decide)) (Or.inl ⟨rfl, _, rfl⟩) ?_
    · rw [htt]
      show z_tv _ ts (0, 2147483648, 2147583648) _
      exact h_tvn (by omega) (by omega) (by omega)
    have s1 : (ws.set jx (ax, .inr (8, fs.set 12 (.int (nI (T + k))))))[jx]? = some (ax, .inr (8, fs.set 12 (.int (nI (T + k))))) := List.getElem?_set_self (List.getElem?_eq_some_iff.mp o1).1
    have s2 : (fs.set 12 (.int (nI (T + k))))[12]? = some (.int (nI (T + k))) := List.getElem?_set_self (by omega)
    refine y_aln hC (E 19 _ rfl) rfl ?_
    refine y_get hcl hC (E 20 _ rfl) s1 s2 ?_
    exact y_ir hC hQ (E 21 _ rfl) hn ⟨by rw [y1], by rw [y2]; exact ⟨ax, _, s1, s2⟩⟩
  · have h3 : nI 100000 < nI T + v := h3
    rw [k2, nI_add] at h3
    have h3 := (q_lt_iff _ _).mp h3
    rw [z_qnI (by omega), z_qnI (by omega)] at h3
    exact no (by omega)
theorem h_m_latm (hA : z_A0 l base D sa) {T : Nat} (hT : T ≤ 100000) (hm1 : (q_ad ws)[jm]? = some am) (hm2 : ts[jm]? = some 40) (ht : h_pl ws jm 65 (.int (nI T))) (v : Int32) : z_Met l base D sa z_tt [(40, 2147483713, 2147483713)] (1, 0) 104 [.ref am, .int v] ws ts (fun r ws' _ => r = some (h_lan T v) ∧ h_pl ws' jm 65 (.int (nI (h_lti T v)))) := by
  have hok := hA.2.1
  have hcl := hA.1
  refine z_ofW (fun tys hw hD => ?_)
  obtain ⟨fs, o1, o2, o3⟩ := h_obj hw hm1 hm2 rfl
  have o1 : ws[jm]? = some (am, .inr (9, fs)) := o1
  have o2 : fs.length = 68 := o2
  have f12 := ht.fld o1
  clear hw hD
  refine y_meth (J := fun _ _ => True) (hok 104 (by decide)) (fun v hv => by
    rcases List.mem_cons.mp hv with rfl | hv
    · rfl
    rcases List.mem_singleton.mp hv with rfl
    rfl) (show 2 ≤ 2 by decide) (fun _ _ _ => trivial) ?_
  intro p e s m below meth c X hX hC hQ
  have hi : y_i X = 104 := by rw [hX]
  have htt : y_tt X = z_tt := by rw [hX]
  have hkw : y_kw X = [(40, 2147483713, 2147483713)] := by rw [hX]
  have hd : y_d X = (1, 0) := by rw [hX]
  have hl : y_l X = l ∧ y_b X = base ∧ y_D X = D ∧ y_sa X = sa := by rw [hX]; exact ⟨rfl, rfl, rfl, rfl⟩
  clear hX
  obtain ⟨rfl, rfl, rfl, rfl⟩ := hl
  have E := y_Ei hok hi (by decide) (cd := q_cd104) rfl
  have hn : (0 : Nat) ≤ (y_d X).2 := Nat.zero_le _
  show Y X 0 0 [some (.ref am), some (.int v)] [] ws ts
  have no : ¬ (2147483648 ≤ q_qb v ∧ q_qb v ≤ 2147484648 ∧ T + (q_qb v - 2147483648) ≤ 100000) → Y X 0 23 [some (.ref am), some (.int v)] [] ws ts := fun hno => by
    refine y_ic hC (E 11 _ rfl) ?_
    exact y_ir hC hQ (E 12 _ rfl) hn ⟨by rw [(h_lk_no hno).1], by rw [(h_lk_no hno).2]; exact ht⟩
  refine y_iln hC (E 0 _ rfl) rfl ?_
  refine y_ic hC (E 1 _ rfl) ?_
  refine y_sp hC (E 2 _ rfl) ?_
  refine y_stap hok hC (E 3 _ rfl) (by decide) (by decide) (av := [.int v, .int (nI 0), .int (nI 1000)]) (rv := []) (by rw [htt]; exact h_m_in hok v (nI 0) (nI 1000)) rfl rfl (by rw [hd]; decide) hn h_cat0 ?_
  refine y_if hC (E 4 _ rfl) (fun h => ?_) (fun h => ?_)
  · refine no (fun hh => ?_)
    have h : nI (h_in v (nI 0) (nI 1000)) = 0 := h
    rcases h_nI01 (h_in_lt v (nI 0) (nI 1000)) with ⟨-, g⟩ | ⟨g, -⟩
    · unfold h_in at g
      rw [if_pos ⟨(q_le_iff _ _).mpr (by rw [z_qnI (by decide)]; omega), (q_le_iff _ _).mpr (by rw [z_qnI (by decide)]; omega)⟩] at g
      cases g
    · exact g h
  have h : ¬ nI (h_in v (nI 0) (nI 1000)) = 0 := h
  rcases h_nI01 (h_in_lt v (nI 0) (nI 1000)) with ⟨g, _⟩ | ⟨_, g⟩
  · exact absurd g h
  obtain ⟨k, hk, rfl⟩ := h_in_nat (by decide) g
  refine y_aln hC (E 5 _ rfl) rfl ?_
  refine y_get hcl hC (E 6 _ rfl) o1 f12 ?_
  refine y_iln hC (E 7 _ rfl) rfl ?_
  refine y_add hC (E 8 _ rfl) ?_
  rw [nI_add]
  refine y_lw hC (E 9 _ rfl) (by decide) ?_
  refine y_cmp hC (E 10 _ rfl) (fun h3 => ?_) (fun h3 => ?_)
  · have h3 : nI (T + k) ≤ nI 100000 := h3
    have h3 := (q_le_iff _ _).mp h3
    rw [z_qnI (by omega), z_qnI (by omega)] at h3
    obtain ⟨y1, y2⟩ := h_lk_yes (T := T) hk (by omega)
    refine y_aln hC (E 13 _ rfl) rfl ?_
    refine y_dup hC (E 14 _ rfl) rfl ?_
    refine y_get hcl hC (E 15 _ rfl) o1 f12 ?_
    refine y_iln hC (E 16 _ rfl) rfl ?_
    refine y_add hC (E 17 _ rfl) ?_
    rw [nI_add]
    refine y_put hcl hC (E 18 _ rfl) o1 hm2 (by rw [htt]; rfl) ?_ (by omega) (by rw [hkw]; exact h_wrm List.mem_cons_self (by decide) (by decide)) (Or.inl ⟨rfl, _, rfl⟩) ?_
    · rw [htt]
      show z_tv _ ts (0, 2147483648, 2147583648) _
      exact h_tvn (by omega) (by omega) (by omega)
    have s1 : (ws.set jm (am, .inr (9, fs.set 65 (.int (nI (T + k))))))[jm]? = some (am, .inr (9, fs.set 65 (.int (nI (T + k))))) := List.getElem?_set_self (List.getElem?_eq_some_iff.mp o1).1
    have s2 : (fs.set 65 (.int (nI (T + k))))[65]? = some (.int (nI (T + k))) := List.getElem?_set_self (by omega)
    refine y_aln hC (E 19 _ rfl) rfl ?_
    refine y_get hcl hC (E 20 _ rfl) s1 s2 ?_
    exact y_ir hC hQ (E 21 _ rfl) hn ⟨by rw [y1], by rw [y2]; exact ⟨am, _, s1, s2⟩⟩
  · have h3 : nI 100000 < nI (T + k) := h3
    have h3 := (q_lt_iff _ _).mp h3
    rw [z_qnI (by omega), z_qnI (by omega)] at h3
    refine no (fun hh => ?_)
    rw [z_qnI (by omega)] at hh
    omega
end HO
