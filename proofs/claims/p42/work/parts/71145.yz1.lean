/-! ===== a run from a place to a stop where the int of local 1 is kept ===== -/
noncomputable def z_sp2 (M : z_M) (cs : List z_C) (ps : List (Nat × Nat × z_C)) (o : z_O) : Bool := Nat.beq (z_nth o.2.2.1 1).1 0 && z_sp1 M cs ps o
noncomputable def z_ckq (g : z_G) (cdt : Nat → List q_I) (fuel : Nat) (M : z_M) (pc spc : Nat) (ps : List (Nat × Nat × z_C)) : Option (List z_O) := z_ia M.2.1 (fun V as => z_ip M.2.2.1 (fun W cs => match z_run (g.1, M.2.2.2.1, g.2.2) cdt fuel (M.2.2.2.2.2.1, M.2.2.2.2.1) M.1 (cdt M.1) (q_jm (cdt M.1) pc) W (z_pad (q_ml M.1) (z_sl as)) [] [spc] [] with
  | none => none
  | some os => bif z_all (fun o => bif Nat.beq o.1 spc then z_sp2 M cs ps o else z_rk2 cdt M.1 M.2.2.2.2.1 o && z_oks M cs o) os && Nat.ble (q_len (z_sl as)) (q_ml M.1) then some [] else none) V as) z_V0 []
theorem y_L2 {nL : Nat} {ls : Array Slot} {v w : Value} (h : lv_has ls nL [(0, v), (1, w)]) (hv : v.category = 1) (hw : w.category = 1) (hn : 2 ≤ nL) : y_L (some v :: some w :: List.replicate (nL - 2) none) nL ls := by
  refine ⟨by rw [List.length_cons, List.length_cons, List.length_replicate]; omega, [(0, v), (1, w)], h, fun q hq => ?_, fun k u hk => ?_⟩
  · rcases List.mem_cons.mp hq with rfl | hq
    · exact hv
    · rcases List.mem_singleton.mp hq with rfl
      exact hw
  · match k, hk with
    | 0, hk =>
      cases hk
      exact List.mem_cons_self
    | 1, hk =>
      cases hk
      exact List.mem_cons_of_mem _ (List.mem_singleton.mpr rfl)
    | k + 2, hk =>
      have hk : (List.replicate (nL - 2) (none : Option Value))[k]? = some (some u) := hk
      have := List.mem_of_getElem? hk
      cases (List.mem_replicate.mp this).2
theorem y_z1 {l : Launch} {base : Nat} {D : va_G} {sa : Nat → Nat} {J : va_W → List Nat → Prop} {X : y_X} {pc spc fuel : Nat} {N : List z_N} {P : List z_M} {M : z_M} {ps : List (Nat × Nat × z_C)} {ws : va_W} {ts : List Nat} {a0 : Nat} {av bv : List Value} {post : Option Value → va_W → List Nat → Prop} (hA : z_A0 l base D sa) (hC : y_C X) (hQ : y_end X post) (hl : y_l X = l ∧ y_b X = base ∧ y_D X = D ∧ y_sa X = sa) (htt : y_tt X = z_tt) (hx : y_i X = M.1) (hx2 : M.1 < q_nM) (hd : y_d X = (M.2.2.2.2.2.1, M.2.2.2.2.1)) (hcat : ∀ v ∈ av, v.category = 1) (hav : av[0]? = some (.ref a0)) (hta : z_Ta (q_ad ws) ts M.2.1 av) (hpf : z_Pf ws ts M.2.2.1 av bv) (hP : ∀ m ∈ P, z_Con l base D sa z_tt J m) (hJ : ∀ ws' ts', z_Fr M.2.2.2.1 ws ts ws' ts' → J ws' ts') (hkw : ∀ t q, z_wr M.2.2.2.1 t q → z_wr (y_kw X) t q) (h : (z_ckq (z_tt, [], 0, N, P) q_code fuel M pc spc ps).isSome = true)
    (hst : ∀ (ws' : va_W) (ts' : List Nat) (tys' : List (ClassId × FieldType)), z_W z_tt ws' tys' ts' → va_D (q_A base) ws' → z_Fr M.2.2.2.1 ws ts ws' ts' → z_CP (z_mst M ps) bv none ws' ts' → ∀ v1 : Int32, Y X 0 spc (some (.ref a0) :: some (.int v1) :: List.replicate (q_ml M.1 - 2) none) [] ws' ts')
    (hpost : ∀ (v : Option Value) (ws' : va_W) (ts' : List Nat) (tys' : List (ClassId × FieldType)), z_W z_tt ws' tys' ts' → va_D (q_A base) ws' → z_Fr M.2.2.2.1 ws ts ws' ts' → z_CP M bv v ws' ts' → post v ws' ts') : Y X 0 pc (av.map some ++ List.replicate (q_ml M.1 - av.length) none) [] ws ts := by
  intro H locs ls tys hp hL
  obtain ⟨rfl, rfl, rfl, rfl⟩ := hl
  rw [htt] at hp
  obtain ⟨hw, hP9, hK, hD, hS, hF⟩ := hp
  obtain ⟨R, hR⟩ := Option.isSome_iff_exists.mp h
  have hv0 : z_Sv (y_sa X) z_tt [.int 0] ws ts z_V0 [.int 0] := ⟨List.prefix_rfl, z_V0_E, (fun f hf => by cases hf), (fun d hd => by cases hd)⟩
  obtain ⟨V1, as, vs1, h1, h2, h3, h4, h5⟩ := z_ia_s hR hv0 (show z_Sr (y_sa X) (q_ad ws) ts [.int 0] [] [] from trivial) hta
  rw [List.nil_append] at h4
  obtain ⟨V2, cs, vs2, k1, k2, k3, k4, k5⟩ := z_ip_s hD h1 h3 h4 hpf
  have h4' := z_Sr.mono k2 List.prefix_rfl List.prefix_rfl h4
  cases hr : z_run (z_tt, M.2.2.2.1, 0, N, P) q_code fuel (M.2.2.2.2.2.1, M.2.2.2.2.1) M.1 (q_code M.1) (q_jm (q_code M.1) pc) V2 (z_pad (q_ml M.1) (z_sl as)) [] [spc] [] with
  | none =>
    have k1 : (match z_run (z_tt, M.2.2.2.1, 0, N, P) q_code fuel (M.2.2.2.2.2.1, M.2.2.2.2.1) M.1 (q_code M.1) (q_jm (q_code M.1) pc) V2 (z_pad (q_ml M.1) (z_sl as)) [] [spc] [] with
      | none => none
      | some os => bif z_all (fun o => bif Nat.beq o.1 spc then z_sp2 M cs ps o else z_rk2 q_code M.1 M.2.2.2.2.1 o && z_oks M cs o) os && Nat.ble (q_len (z_sl as)) (q_ml M.1) then some [] else none) = some R := k1
    rw [hr] at k1
    cases k1
  | some os =>
    have k1 : (match z_run (z_tt, M.2.2.2.1, 0, N, P) q_code fuel (M.2.2.2.2.2.1, M.2.2.2.2.1) M.1 (q_code M.1) (q_jm (q_code M.1) pc) V2 (z_pad (q_ml M.1) (z_sl as)) [] [spc] [] with
      | none => none
      | some os => bif z_all (fun o => bif Nat.beq o.1 spc then z_sp2 M cs ps o else z_rk2 q_code M.1 M.2.2.2.2.1 o && z_oks M cs o) os && Nat.ble (q_len (z_sl as)) (q_ml M.1) then some [] else none) = some R := k1
    rw [hr] at k1
    obtain ⟨r1, -⟩ := q_bifs k1
    obtain ⟨r1, r3⟩ := q_ands r1
    have r3 := q_ble.mp r3
    rw [q_len_eq] at r3
    have hsl := h4'.sl1 hcat
    rw [hsl] at r3
    obtain ⟨hcl, hok, ho1, ho2, hOT⟩ := hA
    obtain ⟨e1, tl1, hx1⟩ := z_run_hd hr
    rcases q_jm_suf (q_code M.1) pc with hn | ⟨pre, e2, tl2, s1, s2, s3⟩
    · rw [hn] at hx1
      cases hx1
    have hOk := z_sound (J := J) (g := (z_tt, M.2.2.2.1, 0, N, P)) hcl hok z_hlk ho2 z_hbyte hP (hOT _ J) (z_s_new hcl hok ho1 ho2 rfl) fuel (M.2.2.2.2.2.1, M.2.2.2.2.1) M.1 (q_jm (q_code M.1) pc) V2 (z_pad (q_ml M.1) (z_sl as)) [] [spc] [] os hx2 ⟨pre, s1⟩ (fun X hX => by cases hX) hr e2 tl2 s2
    rw [s3] at hOk
    have hlen : as.length = av.length := (z_Sr.cats h4).1.symm
    have hLr : z_Lr (y_sa X) (q_ad ws) ts vs2 (z_pad (q_ml M.1) (z_sl as)) (q_ml M.1) ls := by
      obtain ⟨lv, l1, l2, l3⟩ := hL.2
      rw [hx] at l1
      refine ⟨?_, lv, l1, fun i cc hc => ?_⟩
      · show (z_sl as ++ List.replicate (Nat.sub (q_ml M.1) (q_len (z_sl as))) (9, 0, 0)).length = _
        rw [List.length_append, List.length_replicate, q_len_eq, Nat.sub_eq, hsl]
        omega
      · have hc : (z_sl as ++ List.replicate (Nat.sub (q_ml M.1) (q_len (z_sl as))) (9, 0, 0))[i]? = some cc := hc
        rw [hsl] at hc
        rcases Nat.lt_or_ge i as.length with hi | hi
        · rw [List.getElem?_append_left hi] at hc
          obtain ⟨v, v1, v2⟩ := h4'.at1 hc
          refine Or.inr ⟨v, l3 i v ?_, v2⟩
          rw [List.getElem?_append_left (by rw [List.length_map]; omega), List.getElem?_map, v1]
          rfl
        · rw [List.getElem?_append_right hi] at hc
          have := List.mem_of_getElem? hc
          rw [(List.mem_replicate.mp this).2]
          exact Or.inl rfl
    have hCx : z_Cx (y_b X) (y_sa X) M.2.2.2.1 J M.1 (y_p X) (y_s X) (y_m X) (y_a X) (y_me X) (y_c X) ws ts := ⟨by rw [← hx]; exact hC.1, hC.2.1, hJ⟩
    have fin : ∀ o ∈ os, z_Fi (y_l X) (y_b X) (y_D X) (y_sa X) (z_tt, M.2.2.2.1, 0, N, P) (M.2.2.2.2.2.1, M.2.2.2.2.1) M.1 (y_p X) (y_e X) (y_s X) (y_m X) (y_a X) (y_w X) (y_me X) (y_c X) (y_Q X) ws ts vs2 o := by
      intro o ho H' locs' ls' sv ws' tys' ts' vs' hp' hv' hL' hs'
      obtain ⟨hw', hP', hK', hD', hS', hF'⟩ := hp'
      have hp2 : z_Hp (y_b X) (y_D X) (y_tt X) (y_kw X) (y_s X) (y_w0 X) (y_t0 X) H' locs' ws' tys' ts' := by
        rw [htt]
        exact ⟨hw', hP', hK', hD', hS', hF.trans (hF'.wide hkw)⟩
      have ho1 := z_all_iff.mp r1 o ho
      have hY0 : ∀ {n : Nat} {st : List Value}, n = o.2.1.2.2.2.2.2 → Y X n o.1 (List.replicate (q_ml (y_i X)) none) st ws' ts' → W (y_p X) (y_l X) (y_e X) (q_rm M.2.2.2.2.2.1 (9 * M.2.2.2.2.1) (446 * M.2.2.2.2.1)) (y_s X) (y_m X) (y_a X) (y_w X) (y_me X) (y_c X) H' locs' (9 * o.2.1.2.2.2.2.2) (446 * o.2.1.2.2.2.2.2) (y_Q X) (F0 (y_m X) o.1 ls' st) := fun hn hy => by
        subst hn
        obtain ⟨lv, l1, -⟩ := hL'.2
        have := hy H' locs' ls' tys' hp2 (y_L0 (by rw [hx]; exact l1))
        rw [hd] at this
        exact this
      cases hb : Nat.beq o.1 spc with
      | true =>
        have ho1 : (bif Nat.beq o.1 spc then z_sp2 M cs ps o else z_rk2 q_code M.1 M.2.2.2.2.1 o && z_oks M cs o) = true := ho1
        rw [hb] at ho1
        have ho1 : z_sp2 M cs ps o = true := ho1
        obtain ⟨c0, ho1⟩ := q_ands ho1
        have c0 := q_beq.mp c0
        obtain ⟨c1, ho1⟩ := q_ands ho1
        obtain ⟨c2, ho1⟩ := q_ands ho1
        obtain ⟨c3, c4⟩ := q_ands ho1
        have c1 := z_ceq_eq c1
        have c2 := q_beq.mp c2
        have c3 := q_beq.mp c3
        have hpc := q_beq.mp hb
        have hsv : sv = [] := by
          obtain ⟨d1, -⟩ := q_ands c4
          have d1 : (match o.2.2.2 with
            | [] => true
            | _ => false) = true := d1
          cases h9 : o.2.2.2 with
          | nil =>
            rw [h9] at hs'
            exact hs'.nil
          | cons _ _ => rw [h9] at d1; cases d1
        subst hsv
        have hcp := z_oks_s (v := none) c4 hv' hs' k4
        rw [c3]
        obtain ⟨l0, lv, l1, l2⟩ := hL'
        have hthis : ls'[0]? = some (.val (.ref a0)) := by
          have hcs0 : cs[0]? = some (z_nth cs 0) := by
            cases cs with
            | nil => cases c2
            | cons c0 cs => rfl
          have hbv : ∃ v, bv[0]? = some v ∧ z_v (y_sa X) (q_ad ws) ts vs2 (z_nth cs 0) v := k4.at1 hcs0
          obtain ⟨v, b1, b2⟩ := hbv
          have hv9 : v = .ref a0 := by
            have hpre := hpf.pre.1
            have := z_gm hpre hav
            rw [this] at b1
            exact (Option.some.inj b1).symm
          subst hv9
          have hl0 : o.2.2.1[0]? = some (z_nth cs 0) := by
            rw [← c1]
            cases h9 : o.2.2.1 with
            | nil =>
              rw [h9] at c1
              rw [← c1] at c2
              cases c2
            | cons c0 r0 => rfl
          rcases l2 0 _ hl0 with q | ⟨v, q1, q2⟩
          · omega
          · have q3 := (q2.ref c2).1
            have q4 := z_gm hv'.1 (b2.ref c2).1
            rw [q4] at q3
            cases q3
            exact l1.2.2 _ q1
        have hl1 : o.2.2.1[1]? = some (z_nth o.2.2.1 1) := by
          cases h9 : o.2.2.1 with
          | nil =>
            rw [h9] at c0
            cases c0
          | cons c0' r0 =>
            cases r0 with
            | nil =>
              rw [h9] at c0
              cases c0
            | cons c1' r1 => rfl
        obtain ⟨v1, hv1⟩ : ∃ v1 : Int32, ls'[1]? = some (.val (.int v1)) := by
          rcases l2 1 _ hl1 with q | ⟨v, q1, q2⟩
          · omega
          · obtain ⟨_, y, -, rfl, -⟩ := q2.int c0
            exact ⟨y, l1.2.2 _ q1⟩
        have hnL : 2 ≤ q_ml M.1 := by
          have := (Array.getElem?_eq_some_iff.mp hv1).1
          rw [l1.1] at this
          exact this
        have := hst ws' ts' tys' hw' hD' hF' hcp v1 H' locs' ls' tys' hp2 (by
          have := y_L2 (nL := q_ml M.1) (ls := ls') (v := .ref a0) (w := .int v1) ⟨l1.1, l1.2.1, fun q hq => by
            rcases List.mem_cons.mp hq with rfl | hq
            · exact hthis
            · rcases List.mem_singleton.mp hq with rfl
              exact hv1⟩ rfl rfl hnL
          rw [hx]
          exact this)
        rw [hd] at this
        rw [hpc]
        exact this
      | false =>
        have ho1 : (bif Nat.beq o.1 spc then z_sp2 M cs ps o else z_rk2 q_code M.1 M.2.2.2.2.1 o && z_oks M cs o) = true := ho1
        rw [hb] at ho1
        have ho1 : (z_rk2 q_code M.1 M.2.2.2.2.1 o && z_oks M cs o) = true := ho1
        obtain ⟨ho1, hoks⟩ := q_ands ho1
        obtain ⟨hrok, hnar⟩ := q_ands ho1
        have hrok : (match q_jm (q_code M.1) o.1 with
          | [] => false
          | e :: _ => Nat.ble o.2.1.2.2.2.2.2 M.2.2.2.2.1 && (match e.2.2.1 with
            | .return_ => (match o.2.2.2 with
              | [] => true
              | _ => false)
            | .ireturn => (match o.2.2.2 with
              | [c] => Nat.beq c.1 0 && (Nat.beq e.2.2.2.1 0 || (Nat.beq e.2.2.2.1 1 && (z_po o.2.1 c && Nat.ble (z_ih o.2.1 c) 2147483649)))
              | _ => false)
            | .areturn => (match o.2.2.2 with
              | [c] => Nat.beq c.1 1
              | _ => false)
            | _ => false)) = true := hrok
        have hnar : (match q_jm (q_code M.1) o.1 with
          | [] => false
          | e :: _ => (match e.2.2.1 with
            | .areturn => false
            | _ => true)) = true := hnar
        have hq2 : ∀ (v : Option Value), v.toList = sv → post v ws' ts' := fun v hv9 => hpost v ws' ts' tys' hw' hD' hF' (z_oks_s (v := v) hoks hv' (by rw [hv9]; exact hs') k4)
        cases hj : q_jm (q_code M.1) o.1 with
        | nil => rw [hj] at hrok; cases hrok
        | cons e0 rr =>
          rw [hj] at hrok hnar
          obtain ⟨hmem, hpc⟩ := z_jm_mem hj
          have E := y_at hok hx2 hmem
          obtain ⟨hle, hr2⟩ := q_ands hrok
          have hle := q_ble.mp hle
          have hle : o.2.1.2.2.2.2.2 ≤ (y_d X).2 := by rw [hd]; exact hle
          rw [← hx] at E
          clear hrok
          obtain ⟨pc0, V0, L0, S0⟩ := o
          obtain ⟨b0, ln0, ins0, x0, y0, z0⟩ := e0
          have hpc : b0 = pc0 := hpc
          subst hpc
          cases ins0 with
          | return_ =>
            match S0, hr2, hs' with
            | _ :: _, hr2, _ => cases hr2
            | [], _, hs' =>
              have h9 := hs'.nil
              subst h9
              exact hY0 rfl (y_vr hC hQ E hle (hq2 none rfl))
          | ireturn =>
            match S0, hr2, hs' with
            | [], hr2, _ => cases hr2
            | _ :: _ :: _, hr2, _ => cases hr2
            | [b], hr2, hs' =>
              obtain ⟨vb, sv1, rfl, hvb, hs1⟩ := hs'.cons
              have h9 := hs1.nil
              subst h9
              have hr2 : (Nat.beq b.1 0 && (Nat.beq x0 0 || (Nat.beq x0 1 && (z_po V0 b && Nat.ble (z_ih V0 b) 2147483649)))) = true := hr2
              obtain ⟨kb, hr3⟩ := q_ands hr2
              have kb := q_beq.mp kb
              obtain ⟨_, xb, -, rfl, -⟩ := id (hvb.int kb)
              rcases q_ors hr3 with h | h
              · have h := q_beq.mp h
                subst h
                exact hY0 rfl (y_ir hC hQ E hle (hq2 (some (.int xb)) rfl))
              · obtain ⟨h, h5⟩ := q_ands h
                have h := q_beq.mp h
                subst h
                obtain ⟨w, hw, rfl⟩ := z_bool01 hv'.2.1 hvb kb (q_ands h5).1 (q_ands h5).2
                exact hY0 rfl (y_zr hC hQ E hle hw (hq2 (some (.int (nI w))) rfl))
          | areturn => cases hnar
          | _ => cases hr2
    have := hOk (y_p X) (y_e X) (y_s X) (y_m X) (y_a X) (y_w X) (y_me X) (y_c X) (y_Q X) ws ts vs2 H locs ls [] ws tys ts vs2 hCx ⟨hw, hP9, hK, hD, hS, z_Fr.rf _ _ _⟩ ⟨List.prefix_rfl, k3.2.1, k3.2.2.1, k3.2.2.2⟩ hLr trivial (fun X hX => by cases hX) fin
    rw [k5.trans h5] at this
    rw [hd]
    exact this
