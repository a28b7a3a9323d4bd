/-! ===== what holds between calls ===== -/
section ZI
variable {l : Launch} {base : Nat} {D : va_G} {sa : Nat → Nat} {tt : Nat → z_T} {kw : List z_C} {d : Nat × Nat} {x : Nat} {av : List Value} {ws : va_W} {ts : List Nat} {post post' : Option Value → va_W → List Nat → Prop}
theorem z_Met.imp2 (h : z_Met l base D sa tt kw d x av ws ts post) (hi : ∀ v ws' tys' ts', z_W tt ws' tys' ts' → va_D (q_A base) ws' → z_Fr kw ws ts ws' ts' → post v ws' ts' → post' v ws' ts') : z_Met l base D sa tt kw d x av ws ts post' := by
  intro p e a1 a2 a3 s m args below b1 b2 b3 b4
  obtain ⟨n, o, c1, c2, c3, ⟨⟨v, ws9, tys9, ts9, d1, d2, d3, d4, d5, d6, d7⟩, d8⟩, c4⟩ := h p e a1 a2 a3 s m args below b1 b2 b3 b4
  exact ⟨n, o, c1, c2, c3, ⟨⟨v, ws9, tys9, ts9, d1, d2, d3, d4, d5, d6, hi _ _ _ _ d2 d5 d6 d7⟩, d8⟩, c4⟩
end ZI
def h_Jy (jx : Nat) (ws : va_W) (ts : List Nat) : Prop := ts[jx]? = some 0 ∧ ∃ (ji ai A U : Nat), h_px ws ts jx 7 25 ji ai ∧ h_pl ws ji 2 (.int (nI A)) ∧ h_pl ws ji 3 (.int (nI U)) ∧ A + U ≤ 40
section HY
variable {ws ws' : va_W} {ts ts' : List Nat} {kc : List z_C} {jx ax jm am : Nat}
theorem h_px.fr0 {k t j a u : Nat} (hf : z_Fr kc ws ts ws' ts') (hm : ts[jx]? = some u) (hk : ¬ z_wr kc u k) (h : h_px ws ts jx k t j a) : h_px ws' ts' jx k t j a := ⟨h.1.fr hf hm hk, z_gm hf.2.1 h.2.1, z_gm hf.1 h.2.2⟩
theorem h_Jy.fr (k1 : h_off kc 0 7 7 = true) (k2 : h_off kc 25 2 3 = true) (hf : z_Fr kc ws ts ws' ts') (h : h_Jy jx ws ts) : h_Jy jx ws' ts' := by
  obtain ⟨h0, ji, ai, A, U, h1, h2, h3, h4⟩ := h
  exact ⟨z_gm hf.1 h0, ji, ai, A, U, h1.fr0 hf h0 (h_offs k1 7 (by omega) (by omega)), h2.fr hf h1.2.2 (h_offs k2 2 (by omega) (by omega)), h3.fr hf h1.2.2 (h_offs k2 3 (by omega) (by omega)), h4⟩
/-- the two objects, and J of both -/
def h_I (jx ax jm am : Nat) (ws : va_W) (ts : List Nat) : Prop := ((q_ad ws)[jx]? = some ax ∧ (q_ad ws)[jm]? = some am) ∧ h_Jy jx ws ts ∧ h_Jp jm ws ts ∧ h_Jc jm ws ts
def h_T2 (jx jm Tx Tm : Nat) (ws : va_W) : Prop := (Tx ≤ 100000 ∧ Tm ≤ 100000) ∧ h_pl ws jx 12 (.int (nI Tx)) ∧ h_pl ws jm 65 (.int (nI Tm))
def h_kI (kc : List z_C) : Bool := h_kJp kc && (kc.all h_kJ1 && (h_off kc 40 65 65 && (h_off kc 0 7 7 && (h_off kc 0 12 12 && h_off kc 25 2 3))))
def h_kT (kc : List z_C) : Bool := h_off kc 40 65 65 && h_off kc 0 12 12
theorem h_Jp.tag (h : h_Jp jm ws ts) : ts[jm]? = some 40 := by
  obtain ⟨b, N, A, U, h, -⟩ := h
  exact h.1
theorem h_I.fr {Tx Tm : Nat} (hk : h_kI kc = true) (hf : z_Fr kc ws ts ws' ts') (h : h_I jx ax jm am ws ts) (hT : h_T2 jx jm Tx Tm ws) : h_I jx ax jm am ws' ts' ∧ h_T2 jx jm Tx Tm ws' := by
  obtain ⟨a1, hk⟩ := q_ands hk
  obtain ⟨a2, hk⟩ := q_ands hk
  obtain ⟨a3, hk⟩ := q_ands hk
  obtain ⟨a4, hk⟩ := q_ands hk
  obtain ⟨a5, a6⟩ := q_ands hk
  obtain ⟨⟨h1, h2⟩, h3, h4, h5⟩ := h
  exact ⟨⟨⟨z_gm hf.2.1 h1, z_gm hf.2.1 h2⟩, h3.fr a4 a6 hf, h4.fr a1 hf, h5.fr a2 hf⟩, hT.1, hT.2.1.fr hf h3.1 (h_offs a5 12 (by omega) (by omega)), hT.2.2.fr hf h4.tag (h_offs a3 65 (by omega) (by omega))⟩
theorem h_T2.fr {Tx Tm : Nat} (hk : h_kT kc = true) (hf : z_Fr kc ws ts ws' ts') (h : h_I jx ax jm am ws ts) (hT : h_T2 jx jm Tx Tm ws) : h_T2 jx jm Tx Tm ws' := by
  obtain ⟨a3, a5⟩ := q_ands hk
  obtain ⟨⟨h1, h2⟩, h3, h4, h5⟩ := h
  exact ⟨hT.1, hT.2.1.fr hf h3.1 (h_offs a5 12 (by omega) (by omega)), hT.2.2.fr hf h4.tag (h_offs a3 65 (by omega) (by omega))⟩
end HY
/-- a call that keeps what holds -/
def h_Op (l : Launch) (base : Nat) (D : va_G) (sa : Nat → Nat) (x : Nat) (av : List Value) (ws : va_W) (ts : List Nat) (post : Option Value → va_W → List Nat → Prop) : Prop := ∃ (kc : List z_C) (d mk : Nat), d ≤ 70 ∧ mk ≤ 1 ∧ z_Met l base D sa z_tt kc (d, mk) x av ws ts post
def h_pI (jx ax jm am Tx Tm : Nat) : Option Value → va_W → List Nat → Prop := fun v ws ts => (∃ x : Int32, v = some (.int x)) ∧ h_I jx ax jm am ws ts ∧ h_T2 jx jm Tx Tm ws
section HO
variable {l : Launch} {base : Nat} {D : va_G} {sa : Nat → Nat} {ws : va_W} {ts : List Nat} {jx ax jm am Tx Tm : Nat}
theorem h_opC {J : va_W → List Nat → Prop} {M : z_M} {av bv : List Value} (hcon : z_Con l base D sa z_tt J M) (hJ : J ws ts) (hta : z_Ta (q_ad ws) ts M.2.1 av) (hpf : z_Pf ws ts M.2.2.1 av bv) (hk : h_kI M.2.2.2.1 = true) (hd : Nat.ble M.2.2.2.2.2.1 70 = true) (hm : Nat.ble M.2.2.2.2.1 1 = true) (hans : M.2.2.2.2.2.2.1 = true) (hans2 : M.2.2.2.2.2.2.2.1.all (fun t => Nat.beq t.1 0) = true) (hI : h_I jx ax jm am ws ts) (hT : h_T2 jx jm Tx Tm ws) : h_Op l base D sa M.1 av ws ts (h_pI jx ax jm am Tx Tm) := ⟨M.2.2.2.1, M.2.2.2.2.2.1, M.2.2.2.2.1, q_ble.mp hd, q_ble.mp hm, (hcon ws ts av bv hta hpf hJ).imp2 (fun _ _ _ _ _ _ hf hcp => ⟨h_cpv hans hans2 hcp, hI.fr hk hf hT⟩)⟩
/-- the class's acts -/
theorem h_xrun (hA : z_A0 l base D sa) {M : z_M} {N : List z_N} {P : List z_M} {fuel n : Nat} {chk : List z_C → z_O → Bool} (hx2 : M.1 < q_nM) (hchk : chk = fun cs o => z_rk2 q_code M.1 M.2.2.2.2.1 o && z_any (fun R => z_alt2k M cs o R) [z_Rya n, z_Ryb n]) (hP : ∀ m ∈ P, z_Con l base D sa z_tt (fun _ _ => True) m) (h : (z_ckg (z_tt, [], 0, N, P) q_code fuel M 0 [] chk).isSome = true) {av : List Value} (hn : av.length = n) (hav : av[0]? = some (.ref ax)) (hcat : ∀ v ∈ av, v.category = 1) (hlen : av.length ≤ q_ml M.1) (hta : z_Ta (q_ad ws) ts M.2.1 av) (hpre : M.2.2.1 = [(0, 7, (1, 25, 0)), (n, 2, (0, 2147483648, 2147483688)), (n, 3, (0, 2147483648, 2147483688))]) (h07 : h_off M.2.2.2.1 0 7 7 = true) (hans : M.2.2.2.2.2.2.1 = true) (hans2 : M.2.2.2.2.2.2.2.1.all (fun t => Nat.beq t.1 0) = true) (hj : h_Jy jx ws ts) (hx1 : (q_ad ws)[jx]? = some ax) : z_Met l base D sa z_tt M.2.2.2.1 (M.2.2.2.2.2.1, M.2.2.2.2.1) M.1 av ws ts (h_pv (h_Jy jx)) := by
  have hok := hA.2.1
  obtain ⟨hj0, ji, ai, A, U, h1, h2, h3, h4⟩ := hj
  have hn0 : 0 < av.length := (List.getElem?_eq_some_iff.mp hav).1
  have b0 : ∀ (t : List Value), (av ++ t)[0]? = some (.ref ax) := fun t => by rw [List.getElem?_append_left hn0]; exact hav
  have bn : (av ++ [Value.ref ai, .int (nI A), .int (nI U)])[n]? = some (.ref ai) := by rw [List.getElem?_append_right (by omega), hn, Nat.sub_self]; rfl
  have bn1 : (av ++ [Value.ref ai, .int (nI A), .int (nI U)])[n + 1]? = some (.int (nI A)) := by rw [List.getElem?_append_right (by omega), hn, show n + 1 - n = 1 by omega]; rfl
  have bn2 : (av ++ [Value.ref ai, .int (nI A), .int (nI U)])[n + 2]? = some (.int (nI U)) := by rw [List.getElem?_append_right (by omega), hn, show n + 2 - n = 2 by omega]; rfl
  have hpf : z_Pf ws ts M.2.2.1 av (av ++ [.ref ai, .int (nI A), .int (nI U)]) := by
    rw [hpre]
    refine h1.1.pf hx1 hav (h_tvr h1.2.1 h1.2.2) ?_
    refine h2.pf (a := ai) h1.2.1 ?_ (h_tvn (by omega) (by omega) (by omega)) ?_
    · rw [List.getElem?_append_right (by omega), hn, Nat.sub_self]
      rfl
    refine h3.pf (a := ai) h1.2.1 ?_ (h_tvn (by omega) (by omega) (by omega)) ?_
    · rw [List.append_assoc, List.getElem?_append_right (by omega), hn, Nat.sub_self]
      rfl
    rw [List.append_assoc, List.append_assoc]
    rfl
  refine y_meth (J := fun _ _ => True) (hok M.1 hx2) hcat hlen (fun _ _ _ => trivial) ?_
  intro p e s m below meth cc X hX hC hQ
  have hi : y_i X = M.1 := by rw [hX]
  have htt : y_tt X = z_tt := by rw [hX]
  have hkw : y_kw X = M.2.2.2.1 := by rw [hX]
  have hl : y_l X = l ∧ y_b X = base ∧ y_D X = D ∧ y_sa X = sa := by rw [hX]; exact ⟨rfl, rfl, rfl, rfl⟩
  have hd : y_d X = (M.2.2.2.2.2.1, M.2.2.2.2.1) := by rw [hX]
  clear hX
  refine v_y (fun ls hL => ?_)
  obtain ⟨lv, lv1, -, lv3⟩ := hL.2
  rw [hi] at lv1
  have hlv : ∀ k v, av[k]? = some v → (k, v) ∈ lv := fun k v hk => lv3 k v (by
    have hk2 := (List.getElem?_eq_some_iff.mp hk).1
    rw [List.getElem?_append_left (by rw [List.length_map]; exact hk2), List.getElem?_map, hk]
    rfl)
  refine y_runs (J := fun _ _ => True) (M := M) hA hC hl htt hi hx2 hd hcat lv1 hlv hta hpf hP (fun _ _ _ => trivial) (by rw [hkw]; exact fun _ _ h => h) h ?_
  intro cs o vs2 vs' ls' sv ws4 ts4 tys4 hck hcs hw4 hD4 hF4 hv4 hL4 hs4
  rw [hchk] at hck
  obtain ⟨e1, e2⟩ := q_ands hck
  obtain ⟨R, R1, R2⟩ := z_any_iff.mp e2
  refine y_rend hok hC hQ hi hx2 hd e1 hv4 hL4 hs4 (fun v hv9 => ?_)
  have hal := z_alt2_s (v := v) R2 hv4 (by rw [hv9]; exact hs4) hcs
  refine ⟨h_cpv (M := z_mst2 M R.1) hans hans2 hal.1, ?_⟩
  have x1 : h_px ws4 ts4 jx 7 25 ji ai := h1.fr0 hF4 hj0 (h_offs h07 7 (by omega) (by omega))
  rcases List.mem_cons.mp R1 with rfl | R1
  · obtain ⟨v3, u1, u2, u3⟩ := h_lane hD4 hF4 (jm := jx) h1 bn (hal.1.2 (n, 3, (0, 2147483648, 2147483648)) (List.mem_singleton.mpr rfl))
    rw [h_qv (n := 0) (by omega) (y := v3) (by omega)] at u1
    obtain ⟨fs4, q1, q2, q3⟩ := h_obj hw4 x1.2.1 x1.2.2 rfl
    have q2 : fs4.length = 4 := q2
    have h9 : fs4[2]? = some (fs4[2]'(by omega)) := List.getElem?_eq_getElem (by omega)
    obtain ⟨y, y0, y1, y2⟩ := h_tvi (show z_tv (q_ad ws4) ts4 (0, 2147483648, 2147483688) _ from q3 2 _ h9)
    rw [y0] at h9
    obtain ⟨k, k1, rfl, k3⟩ := z_nat y1
    exact ⟨z_gm hF4.1 hj0, ji, ai, k, 0, x1, ⟨ai, _, q1, h9⟩, u1, by omega⟩
  · rcases List.mem_singleton.mp R1 with rfl
    have same : ∀ {f s k : Nat}, (av ++ [Value.ref ai, .int (nI A), .int (nI U)])[s]? = some (.int (nI k)) → k < 2147483648 → (∃ (a j : Nat) (e : va_E) (y y0 : Int32), (av ++ [Value.ref ai, .int (nI A), .int (nI U)])[n]? = some (.ref a) ∧ ws4[j]? = some (a, e) ∧ z_at e f = some (.int y) ∧ (av ++ [Value.ref ai, .int (nI A), .int (nI U)])[s]? = some (.int y0) ∧ q_qb y = q_qb y0 + 0) → h_pl ws4 ji f (.int (nI k)) := fun hs hk hh => by
      obtain ⟨a2, j2, e, y, y0, g1, g2, g3, g4, g5⟩ := hh
      rw [bn] at g1
      cases g1
      rw [hs] at g4
      cases g4
      rw [z_qnI hk] at g5
      rw [h_qv hk (y := y) (by omega)] at g3
      have h2 := x1.2.1
      rw [List.getElem?_map] at h2
      cases h9 : ws4[ji]? with
      | none => rw [h9] at h2; cases h2
      | some q9 =>
        rw [h9] at h2
        obtain ⟨a9, e9⟩ := q9
        cases h2
        obtain ⟨rfl, rfl⟩ := h_same hD4 g2 h9
        exact ⟨_, _, g2, g3⟩
    exact ⟨z_gm hF4.1 hj0, ji, ai, A, U, x1, same bn1 (by omega) (hal.2.1 (n, 2, n + 1, 0) List.mem_cons_self), same bn2 (by omega) (hal.2.1 (n, 3, n + 2, 0) (List.mem_cons_of_mem _ (List.mem_singleton.mpr rfl))), h4⟩
end HO
