/-! ===== the machine at fixed locals; runs whose ends are looked at one by one ===== -/
def y_V (X : y_X) (n pc : Nat) (ls : Array Slot) (st : List Value) (ws : va_W) (ts : List Nat) : Prop := ∀ (H : Heap) (locs : List Loc) (tys : List (ClassId × FieldType)), z_Hp (y_b X) (y_D X) (y_tt X) (y_kw X) (y_s X) (y_w0 X) (y_t0 X) H locs ws tys ts → W (y_p X) (y_l X) (y_e X) (q_rm (y_d X).1 (9 * (y_d X).2) (446 * (y_d X).2)) (y_s X) (y_m X) (y_a X) (y_w X) (y_me X) (y_c X) H locs (9 * n) (446 * n) (y_Q X) (F0 (y_m X) pc ls st)
section YV
variable {X : y_X} {n pc ln x y z : Nat} {L : List (Option Value)} {ls : Array Slot} {st : List Value} {ws : va_W} {ts : List Nat} {v w : Int32} {va vb : Value} {a : Nat}
theorem v_y (h : ∀ ls, y_L L (q_ml (y_i X)) ls → y_V X n pc ls st ws ts) : Y X n pc L st ws ts := fun H locs ls tys hp hL => h ls hL H locs tys hp
theorem v_of (h : Y X n pc L st ws ts) (hL : y_L L (q_ml (y_i X)) ls) : y_V X n pc ls st ws ts := fun H locs tys hp => h H locs ls tys hp hL
theorem v_ty (k : ∀ tys, z_W (y_tt X) ws tys ts → va_D (q_A (y_b X)) ws → y_V X n pc ls st ws ts) : y_V X n pc ls st ws ts := fun H locs tys hp => k tys hp.1 hp.2.2.2.1 H locs tys hp
theorem v_aln {k0 : Fin 4} (hC : y_C X) (E : y_E (y_i X) (pc, ln, .aload_n k0, x, y, z)) (hv : ls[x]? = some (.val (.ref a))) (k : y_V X n (pc + ln) ls (.ref a :: st) ws ts) : y_V X n pc ls st ws ts := by
  intro H locs tys hp
  obtain ⟨hd, ⟨e1, e2⟩, -⟩ := E
  have e1 : ln = 1 := e1
  subst e1
  exact lv_aload_n hC.1.1 hC.1.2.1 hd e2 hv (k H locs tys hp)
theorem v_lln {k0 : Fin 4} {q : Int64} (hC : y_C X) (E : y_E (y_i X) (pc, ln, .lload_n k0, x, y, z)) (hv : ls[x]? = some (.val (.long q))) (k : y_V X n (pc + ln) ls (.long q :: st) ws ts) : y_V X n pc ls st ws ts := by
  intro H locs tys hp
  obtain ⟨hd, -, ⟨e1, e2⟩⟩ := E
  have e1 : ln = 1 := e1
  subst e1
  exact lv_lload_n hC.1.1 hC.1.2.1 hd e2 hv (k H locs tys hp)
theorem v_l2 {k0 : Nat} (hC : y_C X) (E : y_E (y_i X) (pc, ln, .ldc2_w k0, x, y, z)) (hz : ¬ z = 99) (k : y_V X n (pc + ln) ls (.long (z_lcv x) :: st) ws ts) : y_V X n pc ls st ws ts := by
  intro H locs tys hp
  obtain ⟨hd, -, e0 | ⟨e1, e3⟩⟩ := E
  · exact absurd e0 hz
  have e1 : ln = 3 := e1
  subst e1
  exact lv_ldc2 hC.1.1 hC.1.2.1 hC.1.2.2.2.2.1 (hC.1.2.2.2.2.2.1 _ e3) hd (k H locs tys hp)
theorem v_lcmp {p q : Int64} (hC : y_C X) (E : y_E (y_i X) (pc, ln, .lcmp, x, y, z)) (k : y_V X n (pc + ln) ls (.int (lg_cmp p q) :: st) ws ts) : y_V X n pc ls (.long q :: .long p :: st) ws ts := by
  intro H locs tys hp
  obtain ⟨hd, -, e1⟩ := E
  have e1 : ln = 1 := e1
  subst e1
  exact W.lcmp hC.1.1 hC.1.2.1 hd (k H locs tys hp)
theorem v_ic {k0 : Int} (hC : y_C X) (E : y_E (y_i X) (pc, ln, .iconst k0, x, y, z)) (k : y_V X n (pc + ln) ls (.int (nI x) :: st) ws ts) : y_V X n pc ls st ws ts := by
  intro H locs tys hp
  obtain ⟨hd, ⟨e1, e2, e3⟩, -⟩ := E
  have e1 : ln = 1 := e1
  subst e1
  exact lv_iconst hC.1.1 hC.1.2.1 hd e3 (k H locs tys hp)
theorem v_bp {k0 : Int} (hC : y_C X) (E : y_E (y_i X) (pc, ln, .bipush k0, x, y, z)) (k : y_V X n (pc + ln) ls (.int (nI x) :: st) ws ts) : y_V X n pc ls st ws ts := by
  intro H locs tys hp
  obtain ⟨hd, ⟨e1, e2, e3⟩, -⟩ := E
  have e1 : ln = 2 := e1
  subst e1
  exact lv_bipush hC.1.1 hC.1.2.1 hd e3 (k H locs tys hp)
theorem v_if {cd : ClassFile.Cond} {off : Int} (hC : y_C X) (E : y_E (y_i X) (pc, ln, .ifCond cd off, x, y, z)) (k1 : z_cmp cd v 0 → y_V X n x ls st ws ts) (k2 : z_cmp (z_ng cd) v 0 → y_V X n (pc + ln) ls st ws ts) : y_V X n pc ls (.int v :: st) ws ts := by
  intro H locs tys hp
  obtain ⟨hd, ⟨e1, e2⟩, -⟩ := E
  have e1 : ln = 3 := e1
  subst e1
  exact z_ifc hC.1.1 hC.1.2.1 hd e2 (fun h => k1 h H locs tys hp) (fun h => k2 h H locs tys hp)
theorem v_get {k0 j : Nat} {fs : List Value} (hcl : q_clok) (hC : y_C X) (E : y_E (y_i X) (pc, ln, .getfield k0, x, y, z)) (he : ws[j]? = some (a, .inr (x, fs))) (hv : fs[y]? = some va) (k : y_V X n (pc + ln) ls (va :: st) ws ts) : y_V X n pc ls (.ref a :: st) ws ts := by
  intro H locs tys hp
  obtain ⟨hd, ⟨e1, rc, hrc, hy, hlk⟩, -⟩ := E
  have e1 : ln = 3 := e1
  subst e1
  exact va_get (D := y_D X) (ci := x) (C := rc.1) (T := rc.2.1) (N := rc.2.2) hC.1.1 hC.1.2.1 hC.1.2.2.2.2.2.1 (hcl x rc hrc).1 hC.1.2.2.2.2.1 hp.2.2.1 hp.2.1 j he hrc y hy (hC.1.2.2.2.2.2.1 _ hlk) (fun _ h9 => h9) hv hd (k H locs tys hp)
theorem v_zast {j t N q b : Nat} {cA : ClassId} {f : Nat → Int32} (hC : y_C X) (E : y_E (y_i X) (pc, ln, .bastore, x, y, z)) (he : ws[j]? = some (a, .inl (cA, N, .inl f))) (ht : ts[j]? = some t) (h1 : (y_tt X t).1 = 5) (hq : q < N) (hN : N < 2147483648) (hb2 : b < 2) (hb : (z_el (y_tt X t).2.2.1 (q % (y_tt X t).2.2.2.1)).1 ≤ q_qb (nI b) ∧ q_qb (nI b) ≤ (z_el (y_tt X t).2.2.1 (q % (y_tt X t).2.2.2.1)).2) (hw : z_wr (y_kw X) t q) (k : y_V X n (pc + ln) ls st (ws.set j (a, .inl (cA, N, .inl (upd f q (nI b))))) ts) : y_V X n pc ls (.int (nI b) :: .int (nI q) :: .ref a :: st) ws ts := by
  intro H locs tys hp
  obtain ⟨hd, e1, -⟩ := E
  have e1 : ln = 1 := e1
  subst e1
  obtain ⟨en, he2, hc⟩ := hp.1.cell (show (q_ad ws)[j]? = some a by rw [List.getElem?_map, he]; rfl) ht
  rw [he] at he2
  cases he2
  obtain ⟨cA2, t2, f2, e9, h2, h3⟩ := hc.bools h1
  cases e9
  have ec : (nI q).toNatClampNeg = q := nI_clamp (by omega)
  have en : vp_nar .boolean (nI b) = nI b := by
    rcases (show b = 0 ∨ b = 1 by omega) with rfl | rfl <;> decide +kernel
  have hc2 : z_cell (q_ad ws) ts tys (y_tt X t) (.inl (cA, (y_tt X t).2.1, .inl (upd f q (nI b)))) := Or.inr (Or.inr (Or.inr (Or.inl ⟨h1, cA, t2, _, rfl, h2, fun k hk => by
    by_cases ek : k = q
    · subst ek
      rw [pk_us]
      exact hb
    · rw [pk_un ek]
      exact h3 k hk⟩)))
  refine va_zast hC.1.1 hC.1.2.1 hp.2.2.1 hp.2.1 hp.2.2.2.1 hp.2.2.2.2.1 j t2 he h2 (vp_in_nI hq (by omega)) hd (fun H1 locs1 hP1 hD1 hS1 => ?_)
  rw [ec, en] at hP1 hD1
  exact k H1 locs1 tys (hp.set he ht hc2 (fun k v hk hnw => z_upd_in hk (fun e9 => hnw (by rw [e9]; exact hw))) hP1 hD1 hS1)
theorem v_vir {k0 : Nat} {dd : Nat × Nat} {kc : List z_C} {post : Option Value → va_W → List Nat → Prop} {As rv fs : List Value} {j : Nat} (hok : ∀ i, i < q_nM → q_mok i) (hC : y_C X) (E : y_E (y_i X) (pc, ln, .invokevirtual k0, x, y, z)) (hz9 : ¬ z = 99) (hM : z_Met (y_l X) (y_b X) (y_D X) (y_sa X) (y_tt X) kc dd x (.ref a :: As) ws ts post) (he : ws[j]? = some (a, .inr (z, fs))) (hst : st = As.reverse ++ .ref a :: rv) (hAl : As.length + 1 = y) (hd1 : dd.1 + 1 ≤ (y_d X).1) (hd2 : n + dd.2 ≤ (y_d X).2) (hcs : (rv.map fun v => v.category).sum ≤ 8) (hls : ls.size = q_ml (y_i X)) (hkc : ∀ t q, z_wr kc t q → z_wr (y_kw X) t q) (k : ∀ (v : Option Value) (ws' : va_W) (ts' : List Nat), z_Fr kc ws ts ws' ts' → post v ws' ts' → y_V X (n + dd.2) (pc + ln) ls (v.toList ++ rv) ws' ts') : y_V X n pc ls st ws ts := by
  intro H locs tys hp
  obtain ⟨hd, e0 | ⟨e1, hx, hym, hy, hdesc, hin, hsel, ⟨rc, hrc, hrc1⟩, hlk⟩, -⟩ := E
  · exact absurd e0 hz9
  have e1 : ln = 3 := e1
  subst e1
  subst hst
  have hx : x < q_nM := hx
  have hAl : As.length = y - 1 := by omega
  obtain ⟨k1, k2, k3, k4, k5, k6, -⟩ := hok x hx
  refine z_after (va_runV (Ts := q_w0) (own := (q_y (y_i X)).cls) (C := (q_y x).cls) (nL := q_ml (y_i X)) (As := As) (b := a) ⟨hC.1.1, hC.1.2.1, hC.1.2.2.2.1, hC.1.2.2.2.2.1, hC.1.2.2.2.2.2.1⟩ hM ⟨callB_of (y - 1) hC.1.2.2.2.2.2.1 (q_goodIn k1) rfl rfl rfl (hC.1.2.2.2.2.2.1 _ k3) (hC.1.2.2.2.2.2.1 _ hlk) ⟨k4, k5, hdesc⟩ ⟨hd1, by show 8 + (q_ml x + 11) + 40 * dd.1 ≤ 40 * (y_d X).1; omega⟩, hC.1.2.2.2.2.2.1 _ hin, hC.1.2.2.2.2.2.1 _ hsel⟩ ⟨z_blind, by rw [← hrc1]; exact va_recv hp.2.2.1 hp.2.1 hrc he, fun U hU hW => ⟨rfl, by rw [hU]; exact Nat.le_trans hC.1.2.2.2.2.2.2.2.2.2 hp.2.2.2.2.1.1, q_X.warm hW hC.1.2.2.2.2.2.2.1, hC.2.1.go hW hU hp.2.2.2.2.1, tys, hp.1, by rw [hU]; exact hp.2.1, va_K.moved hW.alike hp.2.2.1, hp.2.2.2.1⟩⟩ rfl hAl hls rfl (lv_room hcs) hd ⟨?_, ?_⟩) hp.2.2.2.2.1 (fun v ws1 tys1 ts1 H1 locs1 h1 h2 h3 h4 h5 h6 h7 => ?_)
  · show 9 * n + 9 * dd.2 ≤ 9 * (y_d X).2
    omega
  · show 446 * n + 446 * dd.2 ≤ 446 * (y_d X).2
    omega
  · have z1 : 9 * n + 9 * dd.2 = 9 * (n + dd.2) := by omega
    have z2 : 446 * n + 446 * dd.2 = 446 * (n + dd.2) := by omega
    rw [z1, z2]
    exact k v ws1 ts1 h5 h6 H1 locs1 tys1 ⟨h1, h2, h3, h4, h7, hp.2.2.2.2.2.trans (h5.wide hkc)⟩
end YV
noncomputable def z_ckg (g : z_G) (cdt : Nat → List q_I) (fuel : Nat) (M : z_M) (pc : Nat) (sps : List Nat) (chk : List z_C → z_O → Bool) : Option (List z_O) := z_ia M.2.1 (fun V as => z_ip M.2.2.1 (fun W cs => match z_run (g.1, M.2.2.2.1, g.2.2) cdt fuel (M.2.2.2.2.2.1, M.2.2.2.2.1) M.1 (cdt M.1) (q_jm (cdt M.1) pc) W (z_pad (q_ml M.1) (z_sl as)) [] sps [] with
  | none => none
  | some os => bif z_all (fun o => chk cs o) os && Nat.ble (q_len (z_sl as)) (q_ml M.1) then some [] else none) V as) z_V0 []
theorem y_runs {l : Launch} {base : Nat} {D : va_G} {sa : Nat → Nat} {J : va_W → List Nat → Prop} {X : y_X} {pc fuel : Nat} {sps : List Nat} {N : List z_N} {P : List z_M} {M : z_M} {chk : List z_C → z_O → Bool} {ws : va_W} {ts : List Nat} {av bv : List Value} {ls : Array Slot} {lv0 : List (Nat × Value)} (hA : z_A0 l base D sa) (hC : y_C X) (hl : y_l X = l ∧ y_b X = base ∧ y_D X = D ∧ y_sa X = sa) (htt : y_tt X = z_tt) (hx : y_i X = M.1) (hx2 : M.1 < q_nM) (hd : y_d X = (M.2.2.2.2.2.1, M.2.2.2.2.1)) (hcat : ∀ v ∈ av, v.category = 1) (hl0 : lv_has ls (q_ml M.1) lv0) (hlv : ∀ k v, av[k]? = some v → (k, v) ∈ lv0) (hta : z_Ta (q_ad ws) ts M.2.1 av) (hpf : z_Pf ws ts M.2.2.1 av bv) (hP : ∀ m ∈ P, z_Con l base D sa z_tt J m) (hJ : ∀ ws' ts', z_Fr M.2.2.2.1 ws ts ws' ts' → J ws' ts') (hkw : ∀ t q, z_wr M.2.2.2.1 t q → z_wr (y_kw X) t q) (h : (z_ckg (z_tt, [], 0, N, P) q_code fuel M pc sps chk).isSome = true)
    (hend : ∀ (cs : List z_C) (o : z_O) (vs2 vs' : List Value) (ls' : Array Slot) (sv : List Value) (ws' : va_W) (ts' : List Nat) (tys' : List (ClassId × FieldType)), chk cs o = true → z_Sr sa (q_ad ws) ts vs2 cs bv → z_W z_tt ws' tys' ts' → va_D (q_A base) ws' → z_Fr M.2.2.2.1 ws ts ws' ts' → z_Sv sa z_tt vs2 ws' ts' o.2.1 vs' → z_Lr sa (q_ad ws') ts' vs' o.2.2.1 (q_ml M.1) ls' → z_Sr sa (q_ad ws') ts' vs' o.2.2.2 sv → y_V X o.2.1.2.2.2.2.2 o.1 ls' sv ws' ts') : y_V X 0 pc ls [] ws ts := by
  intro H locs tys hp
  obtain ⟨rfl, rfl, rfl, rfl⟩ := hl
  rw [htt] at hp
  obtain ⟨hw, hP9, hK, hD, hS, hF⟩ := hp
  obtain ⟨R, hR⟩ := Option.isSome_iff_exists.mp h
  have hv0 : z_Sv (y_sa X) z_tt [.int 0] ws ts z_V0 [.int 0] := ⟨List.prefix_rfl, z_V0_E, (fun f hf => by cases hf), (fun d hd => by cases hd)⟩
  obtain ⟨V1, as, vs1, h1, h2, h3, h4, h5⟩ := z_ia_s hR hv0 (show z_Sr (y_sa X) (q_ad ws) ts [.int 0] [] [] from trivial) hta
  rw [List.nil_append] at h4
  obtain ⟨V2, cs, vs2, k1, k2, k3, k4, k5⟩ := z_ip_s hD h1 h3 h4 hpf
  have h4' := z_Sr.mono k2 List.prefix_rfl List.prefix_rfl h4
  cases hr : z_run (z_tt, M.2.2.2.1, 0, N, P) q_code fuel (M.2.2.2.2.2.1, M.2.2.2.2.1) M.1 (q_code M.1) (q_jm (q_code M.1) pc) V2 (z_pad (q_ml M.1) (z_sl as)) [] sps [] with
  | none =>
    have k1 : (match z_run (z_tt, M.2.2.2.1, 0, N, P) q_code fuel (M.2.2.2.2.2.1, M.2.2.2.2.1) M.1 (q_code M.1) (q_jm (q_code M.1) pc) V2 (z_pad (q_ml M.1) (z_sl as)) [] sps [] with
      | none => none
      | some os => bif z_all (fun o => chk cs o) os && Nat.ble (q_len (z_sl as)) (q_ml M.1) then some [] else none) = some R := k1
    rw [hr] at k1
    cases k1
  | some os =>
    have k1 : (match z_run (z_tt, M.2.2.2.1, 0, N, P) q_code fuel (M.2.2.2.2.2.1, M.2.2.2.2.1) M.1 (q_code M.1) (q_jm (q_code M.1) pc) V2 (z_pad (q_ml M.1) (z_sl as)) [] sps [] with
      | none => none
      | some os => bif z_all (fun o => chk cs o) os && Nat.ble (q_len (z_sl as)) (q_ml M.1) then some [] else none) = some R := k1
    rw [hr] at k1
    obtain ⟨r1, -⟩ := q_bifs k1
    obtain ⟨r1, r3⟩ := q_ands r1
    have r3 := q_ble.mp r3
    rw [q_len_eq] at r3
    have hsl := h4'.sl1 hcat
    rw [hsl] at r3
    obtain ⟨hcl, hok, ho1, ho2, hOT⟩ := hA
    obtain ⟨e1, tl1, hx1⟩ := z_run_hd hr
    rcases q_jm_suf (q_code M.1) pc with hn | ⟨pre, e2, tl2, s1, s2, s3⟩
    · rw [hn] at hx1
      cases hx1
    have hOk := z_sound (J := J) (g := (z_tt, M.2.2.2.1, 0, N, P)) hcl hok z_hlk ho2 z_hbyte hP (hOT _ J) (z_s_new hcl hok ho1 ho2 rfl) fuel (M.2.2.2.2.2.1, M.2.2.2.2.1) M.1 (q_jm (q_code M.1) pc) V2 (z_pad (q_ml M.1) (z_sl as)) [] sps [] os hx2 ⟨pre, s1⟩ (fun X hX => by cases hX) hr e2 tl2 s2
    rw [s3] at hOk
    have hlen : as.length = av.length := (z_Sr.cats h4).1.symm
    have hLr : z_Lr (y_sa X) (q_ad ws) ts vs2 (z_pad (q_ml M.1) (z_sl as)) (q_ml M.1) ls := by
      refine ⟨?_, lv0, hl0, fun i cc hc => ?_⟩
      · show (z_sl as ++ List.replicate (Nat.sub (q_ml M.1) (q_len (z_sl as))) (9, 0, 0)).length = _
        rw [List.length_append, List.length_replicate, q_len_eq, Nat.sub_eq, hsl]
        omega
      · have hc : (z_sl as ++ List.replicate (Nat.sub (q_ml M.1) (q_len (z_sl as))) (9, 0, 0))[i]? = some cc := hc
        rw [hsl] at hc
        rcases Nat.lt_or_ge i as.length with hi | hi
        · rw [List.getElem?_append_left hi] at hc
          obtain ⟨v, v1, v2⟩ := h4'.at1 hc
          exact Or.inr ⟨v, hlv i v v1, v2⟩
        · rw [List.getElem?_append_right hi] at hc
          have := List.mem_of_getElem? hc
          rw [(List.mem_replicate.mp this).2]
          exact Or.inl rfl
    have hCx : z_Cx (y_b X) (y_sa X) M.2.2.2.1 J M.1 (y_p X) (y_s X) (y_m X) (y_a X) (y_me X) (y_c X) ws ts := ⟨by rw [← hx]; exact hC.1, hC.2.1, hJ⟩
    have fin : ∀ o ∈ os, z_Fi (y_l X) (y_b X) (y_D X) (y_sa X) (z_tt, M.2.2.2.1, 0, N, P) (M.2.2.2.2.2.1, M.2.2.2.2.1) M.1 (y_p X) (y_e X) (y_s X) (y_m X) (y_a X) (y_w X) (y_me X) (y_c X) (y_Q X) ws ts vs2 o := by
      intro o ho H' locs' ls' sv ws' tys' ts' vs' hp' hv' hL' hs'
      obtain ⟨hw', hP', hK', hD', hS', hF'⟩ := hp'
      have hp2 : z_Hp (y_b X) (y_D X) (y_tt X) (y_kw X) (y_s X) (y_w0 X) (y_t0 X) H' locs' ws' tys' ts' := by
        rw [htt]
        exact ⟨hw', hP', hK', hD', hS', hF.trans (hF'.wide hkw)⟩
      have := hend cs o vs2 vs' ls' sv ws' ts' tys' (z_all_iff.mp r1 o ho) k4 hw' hD' hF' hv' hL' hs' H' locs' tys' hp2
      rw [hd] at this
      exact this
    have := hOk (y_p X) (y_e X) (y_s X) (y_m X) (y_a X) (y_w X) (y_me X) (y_c X) (y_Q X) ws ts vs2 H locs ls [] ws tys ts vs2 hCx ⟨hw, hP9, hK, hD, hS, z_Fr.rf _ _ _⟩ ⟨List.prefix_rfl, k3.2.1, k3.2.2.1, k3.2.2.2⟩ hLr trivial (fun X hX => by cases hX) fin
    rw [k5.trans h5] at this
    rw [hd]
    exact this
