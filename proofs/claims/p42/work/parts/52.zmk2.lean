/-! ===== a run that comes out gives its contract ===== -/
theorem z_oks_s {sa : Nat → Nat} {tt : Nat → z_T} {M : z_M} {cs : List z_C} {o : z_O} {ad ts0 : List Nat} {ws : va_W} {ts : List Nat} {vs vs' bv : List Value} {v : Option Value} (h : z_oks M cs o = true) (hv : z_Sv sa tt vs ws ts o.2.1 vs') (hs : z_Sr sa (q_ad ws) ts vs' o.2.2.2 v.toList) (hcs : z_Sr sa ad ts0 vs cs bv) : z_CP M bv v ws ts := by
  unfold z_oks at h
  obtain ⟨h1, h2⟩ := q_ands h
  obtain ⟨pc, V, L, S⟩ := o
  refine ⟨?_, fun q hq => ?_⟩
  · cases hh : M.2.2.2.2.2.2.1 with
    | true =>
      rw [if_pos rfl]
      rw [hh] at h1
      match S, h1, hs with
      | [], h1, _ => cases h1
      | _ :: _ :: _, h1, _ => cases h1
      | [c], h1, hs =>
        have h1 : z_any (fun t => z_fit V t c) M.2.2.2.2.2.2.2.1 = true := h1
        obtain ⟨t, t1, t2⟩ := z_any_iff.mp h1
        obtain ⟨r, sv, e1, r1, r2⟩ := hs.cons
        have e2 := r2.nil
        subst e2
        cases v with
        | none => cases e1
        | some r9 =>
          cases e1
          exact ⟨t, t1, r, rfl, z_fit_s t2 hv.2.1 r1⟩
    | false =>
      rw [if_neg (by decide)]
      rw [hh] at h1
      match S, h1, hs with
      | _ :: _, h1, _ => cases h1
      | [], _, hs =>
        have e1 := hs.nil
        cases v with
        | none => rfl
        | some r => cases e1
  · have h3 := z_all_iff.mp h2 q hq
    obtain ⟨h3, h4⟩ := q_ands h3
    obtain ⟨h4, h5⟩ := q_ands h4
    have h3 := q_beq.mp h3
    have h4 := q_ble.mp h4
    cases hf : z_fg V.2.2.2.1 (z_nth cs q.1).2.1 (z_kc q.2.1) with
    | none =>
      have h5 : (match z_fg V.2.2.2.1 (z_nth cs q.1).2.1 (z_kc q.2.1) with
        | none => false
        | some c => z_fit V q.2.2 c) = true := h5
      rw [hf] at h5
      cases h5
    | some c =>
      have h5 : (match z_fg V.2.2.2.1 (z_nth cs q.1).2.1 (z_kc q.2.1) with
        | none => false
        | some c => z_fit V q.2.2 c) = true := h5
      rw [hf] at h5
      obtain ⟨f, f1, f2, f3, f4⟩ := z_fg_s hf
      obtain ⟨a, j, k, e, y, r, g1, g2, g3, g4, g5, g6, g7, g8⟩ := hv.2.2.1 f f1
      obtain ⟨w, hw1, hw2⟩ := hcs.nth q.1 (by omega)
      have hva := z_gm hv.1 (hw2.ref h3).1
      rw [f2, hva] at g1
      cases g1
      obtain ⟨u1, u2⟩ := z_kc_v (sa := sa) (ad := q_ad ws) (ts := ts) hv.2.1 (show q.2.1 < 2147483648 by omega)
      rw [f3] at g4
      have ey := g4.inj u1 rfl
      subst ey
      have ek : k = q.2.1 := by omega
      subst ek
      rw [f4] at g8
      exact ⟨a, j, e, r, hw1, g2, g7, z_fit_s h5 hv.2.1 g8⟩
theorem z_mk {l : Launch} {base : Nat} {D : va_G} {sa : Nat → Nat} {g : z_G} {J : va_W → List Nat → Prop} {fuel : Nat} {M : z_M} {R : List z_O} (hcl : q_clok) (hok : ∀ i, i < q_nM → q_mok i) (hlk : ∀ i, i < q_nM → ∀ e ∈ q_code i, z_lnk i e.1 e.2.1 e.2.2.1 e.2.2.2.1 e.2.2.2.2.1 e.2.2.2.2.2) (ho2 : Cond.native arraycopyName ∈ q_w0 ∧ Cond.static arraycopyName ∈ q_w0 ∧ Cond.initialized "java/lang/System" ∈ q_w0) (hbyte : ∀ t, (g.1 t).1 = 3 → ∀ (k : Nat) (w : Int32), (z_el (g.1 t).2.2.1 (k % (g.1 t).2.2.2.1)).1 ≤ q_qb w ∧ q_qb w ≤ (z_el (g.1 t).2.2.1 (k % (g.1 t).2.2.2.1)).2) (hmem : ∀ M ∈ g.2.2.2.2, z_Con l base D sa g.1 J M) (hOT : z_OT l base D sa (g.1, M.2.2.2.1, g.2.2) J) (hON : z_ON l base D sa (g.1, M.2.2.2.1, g.2.2) J) (hJc : ∀ ws ts ws' ts', J ws ts → z_Fr M.2.2.2.1 ws ts ws' ts' → J ws' ts') (hx : M.1 < q_nM) (h : z_ck g q_code fuel M = some R) : z_Con l base D sa g.1 J M := by
  intro ws ts av bv hta hpf hJ
  refine z_ofD (hok M.1 hx) fun hD => ?_
  have hv0 : z_Sv sa g.1 [.int 0] ws ts z_V0 [.int 0] := ⟨List.prefix_rfl, z_V0_E, (fun f hf => by cases hf), (fun d hd => by cases hd)⟩
  obtain ⟨V1, as, vs1, h1, h2, h3, h4, h5⟩ := z_ia_s h hv0 (show z_Sr sa (q_ad ws) ts [.int 0] [] [] from trivial) hta
  rw [List.nil_append] at h4
  obtain ⟨V2, cs, vs2, k1, k2, k3, k4, k5⟩ := z_ip_s hD h1 h3 h4 hpf
  cases hr : z_run (g.1, M.2.2.2.1, g.2.2) q_code fuel (M.2.2.2.2.2.1, M.2.2.2.2.1) M.1 (q_code M.1) (q_code M.1) V2 (z_pad (q_ml M.1) (z_sl as)) [] [] [] with
  | none => rw [hr] at k1; cases k1
  | some os =>
    rw [hr] at k1
    obtain ⟨r1, -⟩ := q_bifs k1
    obtain ⟨r1, r2⟩ := q_ands r1
    obtain ⟨r2, r3⟩ := q_ands r2
    have r3 := q_ble.mp r3
    rw [q_len_eq] at r3
    obtain ⟨e1, tl1, hx1⟩ := z_run_hd hr
    have hmx := hok M.1 hx
    obtain ⟨t0, ht0, ht1⟩ := hmx.2.2.2.2.2.2.2.1
    have e8 : e1.1 = 0 := by
      rw [hx1] at ht0
      have : e1 = t0 := Option.some.inj ht0
      rw [this]; exact ht1
    have hOk := z_sound (g := (g.1, M.2.2.2.1, g.2.2)) hcl hok hlk ho2 hbyte hmem hOT hON fuel (M.2.2.2.2.2.1, M.2.2.2.2.1) M.1 (q_code M.1) V2 (z_pad (q_ml M.1) (z_sl as)) [] [] [] os hx ⟨[], rfl⟩ (fun X hX => by cases hX) hr e1 tl1 hx1
    rw [e8] at hOk
    exact z_meth2 (g := (g.1, M.2.2.2.1, g.2.2)) hmx hOk r1 (k5.trans h5) r3 k3.2.1 k3.2.2.1 k3.2.2.2 (z_Sr.mono k2 List.prefix_rfl List.prefix_rfl h4) (fun ws' ts' hfr => hJc ws ts ws' ts' hJ hfr) (fun v ws' ts' hpo => by
      obtain ⟨o, ho, vs', p1, p2⟩ := hpo
      exact z_oks_s (z_all_iff.mp r2 o ho) p1 p2 k4)
