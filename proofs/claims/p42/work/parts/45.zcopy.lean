/-! ===== arraycopy ===== -/
section ZI
variable {l : Launch} {base : Nat} {D : va_G} {sa : Nat → Nat} {g : z_G} {J : va_W → List Nat → Prop} {ih : z_F} {d : Nat × Nat} {i pc ln x y z : Nat} {tl : List q_I} {V : z_V} {L st : List z_C} {sp : List Nat} {cx : List z_X} {os : List z_O}
theorem z_zero {ad ts : List Nat} {vs : List Value} {c : z_C} {v : Value} (hE : z_E V vs) (h : z_v sa ad ts vs c v) (hc : z_ceq c (0, 0, 2147483648) = true) : v = .int 0 := by
  have h5 := z_ceq_eq hc
  subst h5
  obtain ⟨y0, ey, ey2⟩ := h.con hE
  have e0 : y0 = 0 := (q_eq_iff y0 0).mpr (by rw [ey2, z_qb0])
  rw [ey, e0]
theorem z_s_copy {n : Nat} (hz : z = 77) (ho : Cond.native arraycopyName ∈ q_w0 ∧ Cond.static arraycopyName ∈ q_w0 ∧ Cond.initialized "java/lang/System" ∈ q_w0) (hd : decode (q_b i) pc = .ok (.invokestatic n, ln)) (hk : q_lnk i pc ln (.invokestatic n) x y z) (hgx : z_gx cx) (hN : z_HN l base D sa g J ih d i (pc + ln) tl sp) (hr : z_cpy g ih d i (q_code i) tl V L st sp cx = some os) : z_Ok l base D sa g J d i pc V L st cx os := by
  rcases hk with hk | ⟨e1, hk | hk⟩
  · omega
  · subst e1
    subst hz
    match st, hr with
    | [], hr => cases hr
    | [_], hr => cases hr
    | [_, _], hr => cases hr
    | [_, _, _], hr => cases hr
    | [_, _, _, _], hr => cases hr
    | nn :: dp :: b :: s0 :: a :: rr, hr =>
      have hr : (bif z_cpk g V nn dp b s0 a && (z_cpt g b a && (Nat.ble (z_cats rr) 8 && Nat.ble 1 d.1)) then ih d i (q_code i) tl (z_setF V (z_flt (z_kq V (b.2.2, 2147483648, Nat.add 2147483647 (g.1 b.2.2).2.1)) V.2.2.2.1)) L rr sp cx else none) = some os := hr
      obtain ⟨h1, hr2⟩ := q_bifs hr
      clear hr
      obtain ⟨h1, h2⟩ := q_ands h1
      obtain ⟨h2, h3⟩ := q_ands h2
      obtain ⟨h3, h4⟩ := q_ands h3
      have h3 := q_ble.mp h3
      have h4 := q_ble.mp h4
      unfold z_cpk at h1
      obtain ⟨a1, h1⟩ := q_ands h1
      obtain ⟨b1, h1⟩ := q_ands h1
      obtain ⟨a2, h1⟩ := q_ands h1
      obtain ⟨b2, h1⟩ := q_ands h1
      obtain ⟨d1, h1⟩ := q_ands h1
      obtain ⟨s1, h1⟩ := q_ands h1
      obtain ⟨n1, h1⟩ := q_ands h1
      obtain ⟨n2, h1⟩ := q_ands h1
      obtain ⟨n3, n4⟩ := q_ands h1
      have a2 := q_beq.mp a2
      have b2 := q_beq.mp b2
      have n1 := q_beq.mp n1
      have n2 := z_po_iff.mp n2
      have n3 := q_ble.mp n3
      have n4 := q_ble.mp n4
      clear h1
      unfold z_cpt at h2
      obtain ⟨c1, h2⟩ := q_ands h2
      obtain ⟨c2, h2⟩ := q_ands h2
      obtain ⟨c3, h2⟩ := q_ands h2
      obtain ⟨c4, h2⟩ := q_ands h2
      obtain ⟨c5, h2⟩ := q_ands h2
      obtain ⟨c6, c7⟩ := q_ands h2
      have c1 := q_ble.mp c1
      have c2 := q_ble.mp c2
      have c3 := q_ble.mp c3
      have c4 := q_ble.mp c4
      have c6 := q_ble.mp c6
      have c7 := q_ble.mp c7
      clear h2
      intro p e s m args below meth c Q w0 t0 vs0 H locs ls sv ws tys ts vs C hp hv hL hs hx hf
      obtain ⟨vn, sv1, rfl, hvn, hs1⟩ := hs.cons
      obtain ⟨vd, sv2, rfl, hvd, hs2⟩ := hs1.cons
      obtain ⟨vb, sv3, rfl, hvb, hs3⟩ := hs2.cons
      obtain ⟨v9, sv4, rfl, hv9, hs4⟩ := hs3.cons
      obtain ⟨va, sv5, rfl, hva, hs5⟩ := hs4.cons
      have hz1 := z_zero hv.2.1 hvd d1
      have hz2 := z_zero hv.2.1 hv9 s1
      subst hz1
      subst hz2
      obtain ⟨q, ja, rfl, u1, u2, u3⟩ := hva.nonnull hv.2.1 a1
      obtain ⟨r, jb, rfl, w1, w2, w3⟩ := hvb.nonnull hv.2.1 b1
      obtain ⟨ea, hea, hca⟩ := hp.1.cell u2 u3
      obtain ⟨eb, heb, hcb⟩ := hp.1.cell w2 w3
      obtain ⟨cA, t, f, rfl, ht, hbd⟩ := hca.ints a2
      obtain ⟨cB, t2, f2, rfl, ht2, hbd2⟩ := hcb.ints b2
      obtain ⟨_, xn, -, rfl, -⟩ := id (hvn.int n1)
      have hb := z_il_le hv.2.1 hvn n1
      obtain ⟨k0, hk0, rfl, ek0⟩ := z_nat (x := xn) (by omega)
      generalize hLa : (g.1 a.2.2).2.1 = La at *
      generalize hLb : (g.1 b.2.2).2.1 = Lb at *
      have c5 : z_kw g.2.1 b.2.2 2147483648 (2147483647 + Lb) = true := c5
      have hr3 : ih d i (q_code i) tl (z_setF V (z_flt (z_kq V (b.2.2, 2147483648, 2147483647 + Lb)) V.2.2.2.1)) L rr sp cx = some os := hr2
      have n3 : z_ih V nn ≤ 2147483648 + La := n3
      have n4 : z_ih V nn ≤ 2147483648 + Lb := n4
      have k1 : k0 ≤ La := by omega
      have k2 : k0 ≤ Lb := by omega
      have z0 : (0 : Int32).toNatClampNeg = 0 := by decide
      have zn : (nI k0).toNatClampNeg = k0 := nI_clamp (by omega)
      have hc2 : z_cell (q_ad ws) ts tys (g.1 b.2.2) (.inl (cB, Lb, .inl (va_cpy f f2 0 0 k0))) := Or.inr (Or.inl ⟨b2, cB, t2, _, by rw [hLb], ht2, fun j hj => by
        rcases Nat.lt_or_ge j k0 with hj2 | hj2
        · have e9 : va_cpy f f2 0 0 k0 j = f j := by rw [pk_cpy_in (Nat.zero_le _) (by omega)]; simp
          rw [e9]
          have hj3 := hbd j (by omega)
          have p1 := z_hu_s (g.1 a.2.2).2.2.1 0 ((g.1 a.2.2).2.2.2.1 - 1) (j % (g.1 a.2.2).2.2.2.1) (Nat.zero_le _) (by have := Nat.mod_lt j (show (g.1 a.2.2).2.2.2.1 > 0 by omega); omega)
          have p2 := z_na_s (g.1 b.2.2).2.2.1 0 ((g.1 b.2.2).2.2.2.1 - 1) (j % (g.1 b.2.2).2.2.2.1) (Nat.zero_le _) (by have := Nat.mod_lt j (show (g.1 b.2.2).2.2.2.1 > 0 by omega); omega)
          exact ⟨Nat.le_trans p2.1 (Nat.le_trans c6 (Nat.le_trans p1.1 hj3.1)), Nat.le_trans hj3.2 (Nat.le_trans p1.2 (Nat.le_trans c7 p2.2))⟩
        · have e9 : va_cpy f f2 0 0 k0 j = f2 j := pk_cpy_out (by omega)
          rw [e9]
          exact hbd2 j (by rw [hLb] at hj; exact hj)⟩)
      obtain ⟨hll, lv, hl, -⟩ := id hL
      have hcs := z_cats_s hs5
      refine va_copyi (ty := .int) C.1.1 C.1.2.1 (C.1.2.2.2.1.trans hl.1.symm) C.1.2.2.2.2.1 (C.1.2.2.2.2.2.1 _ hk.2) (C.1.2.2.2.2.2.1 _ ho.1) (C.1.2.2.2.2.2.1 _ ho.2.1) (C.1.2.2.2.2.2.1 _ ho.2.2) hp.2.2.1 hp.2.1 hp.2.2.2.1 hp.2.2.2.2.1 ja jb t t2 hea heb ht ht2 rfl (by decide) (by decide) (nI_pos (by omega)) (by rw [z0, zn]; omega) (by rw [z0, zn]; omega) (fun _ _ => rfl) (by show 1 ≤ d.1; exact h4) ?_ hd (fun H1 locs1 hP1 hD1 hS1 => ?_)
      · have e8 : nativeFrameWords "java/lang/System" "arraycopy" 5 = 7 := by decide +kernel
        rw [e8]
        show _ ≤ 40 * d.1
        omega
      · rw [z0, zn] at hP1 hD1
        have hin : ∀ (kw : List z_C), z_kw kw b.2.2 2147483648 (2147483647 + Lb) = true → ∀ k v, z_at (.inl (cB, Lb, .inl f2)) k = some v → ¬ z_wr kw b.2.2 k → z_at (.inl (cB, Lb, .inl (va_cpy f f2 0 0 k0))) k = some v := fun kw hkw k v hk9 hw9 => by
          have hk9 : (if k < Lb then some (Value.int (f2 k)) else none) = some v := hk9
          have hlt : k < Lb := by
            rcases Nat.lt_or_ge k Lb with h | h
            · exact h
            · rw [if_neg (by omega)] at hk9; cases hk9
          exact absurd (z_wr.of hkw (by omega) (by omega)) hw9
        have hp2 := hp.set heb w3 hc2 (hin g.2.1 c5) hP1 hD1 hS1
        have hfr : z_Fr [(b.2.2, 2147483648, 2147483647 + Lb)] ws ts (ws.set jb (r, .inl (cB, Lb, .inl (va_cpy f f2 0 0 k0)))) ts := (z_Fr.rf _ ws ts).set heb w3 (hin _ (z_kw_iff.mpr ⟨_, List.mem_singleton.mpr rfl, rfl, Nat.le_refl _, Nat.le_refl _⟩))
        have hF3 := z_keeps (F' := z_flt (z_kq V (b.2.2, 2147483648, 2147483647 + Lb)) V.2.2.2.1) hv.2.1 hv.2.2.1 hfr (fun f9 hf9 => by
          obtain ⟨f1, f2⟩ := z_flt_mem.mp hf9
          exact ⟨f1, fun k hk => by rw [List.mem_singleton.mp hk]; exact f2⟩)
        exact z_go (hN _ L rr cx os hgx hr3) hgx C hp2 (hv.setF hF3 hfr.2.1 List.prefix_rfl) List.prefix_rfl (hL.mono List.prefix_rfl hfr.2.1 List.prefix_rfl) (z_Sr.mono List.prefix_rfl hfr.2.1 List.prefix_rfl hs5) hx hf (n := V.2.2.2.2.2) (z_setF_m V _)
  · exact absurd hz hk.1
end ZI
