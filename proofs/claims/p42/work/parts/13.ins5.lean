/-! ===== instruction by instruction: cells are made; returns; what the machine itself does ===== -/
theorem q_tp {tys : List (ClassId × FieldType)} (z : ClassId × FieldType) : (tys ++ [z])[tys.length]? = some z := by simp
theorem q_adl {ws : va_W} {q : Nat} {e : va_E} : (q_ad (ws ++ [(q, e)]))[ws.length]? = some q := by rw [q_ad_app]; simp [q_ad]
section QI
variable {l : Launch} {base : Nat} {D : va_G} {env : Nat → Int32} {rg : Nat → Nat × Nat} {mem : q_M} {ih : q_F} {d i pc ln x y z loc : Nat} {tl : List q_I} {st : List Nat} {h hf : q_H} {r : List Nat}
theorem q_s_new {n : Nat} (hrg : q_rgs env rg) (hd : decode (q_b i) pc = .ok (.new n, ln)) (hcl : q_clok) (hk : q_lnk i pc ln (.new n) x y z) (hN : q_HN l base D env ih i pc ln tl) (hr : q_step rg q_code mem ih d i (q_code i) pc (.new n) x y z tl loc st h = some (hf, r)) : q_G l base D env d i pc loc st h hf r := by
  obtain ⟨e1, rc, hrc, hy, hl1, hl2, hl3, hdf⟩ := hk
  subst e1
  have hr : q_nw h (Nat.mul 2 x) y z (fun h' c => ih d i (q_code i) tl loc (c :: st) h') = some (hf, r) := hr
  obtain ⟨hlt, hr⟩ := q_nw_inv hr
  obtain ⟨hm, hg⟩ := hN d loc _ _ hf r hr
  have hss := q_ss_nw h (Nat.mul 2 x) y z hlt
  have hm1 : h.1 + 1 ≤ hf.1 := hm.1
  have hm2 : q_ss h + y ≤ q_ss hf := by rw [← hss]; exact hm.2
  refine ⟨⟨by omega, by omega⟩, fun p e s m args below meth c H locs ls sv ws tys ad0 n0 s0 C hw hP hK hD hS hp hL hs hn0 hs0 => ?_⟩
  have hfs : ∀ j, j < rc.2.2 → defaultValue ((q_fty.getD x (fun _ => .int)) j) = vp_V ((List.range rc.2.2).map (fun j => defaultValue ((q_fty.getD x (fun _ => .int)) j))) j := by
    intro j hj
    unfold vp_V
    generalize (q_fty.getD x (fun _ => .int)) = F
    rw [List.getD_eq_getElem?_getD, List.getElem?_map, List.getElem?_range hj]
    rfl
  have hcr : ∀ ad : List Nat, q_c env ad tys (Nat.mul 2 x, y, z) (.inr (x, (List.range rc.2.2).map (fun j => defaultValue ((q_fty.getD x (fun _ => .int)) j)))) := fun ad => Or.inl ⟨x, _, rfl, rfl, by rw [List.length_map, List.length_range]; exact hy.symm, fun j v hv => by
    have hj : j < rc.2.2 := by
      have := (List.getElem?_eq_some_iff.mp hv).1
      rw [List.length_map, List.length_range] at this
      exact this
    rw [List.getElem?_map, List.getElem?_range hj] at hv
    have hv : defaultValue ((q_fty.getD x (fun _ => .int)) j) = v := Option.some.inj hv
    show (q_get z j = 4294967313 ∧ ∃ x, v = .long x) ∨ q_v env ad (q_get z j) v
    rcases hdf j (by rw [hy]; exact hj) with ⟨g1, g2⟩ | ⟨g1, g2⟩ | ⟨g1, g2⟩ | ⟨g1, g2⟩
    · rw [g2] at hv
      exact Or.inl ⟨g1, _, hv.symm⟩
    · rw [g2] at hv
      rw [g1, ← hv]
      exact Or.inr (q_v.exq ad (Nat.zero_le _) nI_0.symm)
    · rw [g2] at hv
      rw [g1, ← hv]
      exact Or.inr (q_v.exq ad (Nat.zero_le _) nI_0.symm)
    · rw [g2] at hv
      rw [g1, ← hv]
      exact Or.inr (Or.inr (Or.inr (Or.inr (Or.inl ⟨rfl, rfl⟩))))⟩
  have hA : ∀ q : Nat, s.heap.size ≤ q → q_A base q := fun q hq => Nat.le_trans C.2.2.2.2.2.2.2.2.2 hq
  refine va_new (D := D) (ci := x) (C := rc.1) (T := rc.2.1) (N := rc.2.2) C.1 C.2.1 C.2.2.2.2.2.1 (hcl x rc hrc).1 _ (hcl x rc hrc).2.1 C.2.2.2.2.1 (C.2.2.2.2.2.1 _ hl1) (by rw [← hy]; exact C.2.2.2.2.2.1 _ hl2) (C.2.2.2.2.2.1 _ hl3) hK hP hD hS hA hrc hfs (by show h.1 - n0 + 1 ≤ hf.1 - n0; omega) (by show q_ss h - s0 + rc.2.2 ≤ q_ss hf - s0; omega) hd (fun q H1 hP1 hD1 hS1 => ?_)
  have hpre : q_ad ws <+: q_ad (ws ++ [(q, .inr (x, (List.range rc.2.2).map (fun j => defaultValue ((q_fty.getD x (fun _ => .int)) j))))]) := by rw [q_ad_app]; exact List.prefix_append _ _
  have := (hg p e s m args below meth c H1 locs ls (.ref q :: sv) (ws ++ [(q, .inr (x, (List.range rc.2.2).map (fun j => defaultValue ((q_fty.getD x (fun _ => .int)) j))))]) (tys) ad0 n0 s0 C (hw.push List.prefix_rfl hlt (hcr _)) hP1 hK hD1 hS1 (hp.trans hpre) (hL.mono hpre) (⟨q_v.mkref (by rw [← hw.1]; exact q_adl) hlt, q_S.mono hpre hs⟩) (Nat.le_succ_of_le hn0) (by rw [hss]; omega))
  have z1 : h.1 - n0 + 1 = h.1 + 1 - n0 := by omega
  have z2 : q_ss h - s0 + rc.2.2 = q_ss h + y - s0 := by omega
  rw [z1, z2, ← hss]
  exact this
theorem q_s_newa {t : ArrayType} (hrg : q_rgs env rg) (hd : decode (q_b i) pc = .ok (.newarray t, ln)) (hk : q_lnk i pc ln (.newarray t) x y z) (hN : q_HN l base D env ih i pc ln tl) (hr : q_step rg q_code mem ih d i (q_code i) pc (.newarray t) x y z tl loc st h = some (hf, r)) : q_G l base D env d i pc loc st h hf r := by
  obtain ⟨e1, hl1, hx⟩ := hk
  subst e1
  cases st with
  | nil => cases hr
  | cons a rr =>
    have hr : (bif Nat.ble a 100000 then q_nw h x a 0 (fun h' c => ih d i (q_code i) tl loc (c :: rr) h') else none) = some (hf, r) := hr
    obtain ⟨hq, hr⟩ := q_bifs hr
    have hq := q_ble.mp hq
    obtain ⟨hlt, hr⟩ := q_nw_inv hr
    obtain ⟨hm, hg⟩ := hN d loc _ _ hf r hr
    have hss := q_ss_nw h x a 0 hlt
    have hm1 : h.1 + 1 ≤ hf.1 := hm.1
    have hm2 : q_ss h + a ≤ q_ss hf := by rw [← hss]; exact hm.2
    refine ⟨⟨by omega, by omega⟩, fun p e s m args below meth c H locs ls sv ws tys ad0 n0 s0 C hw hP hK hD hS hp hL hs hn0 hs0 => ?_⟩
    obtain ⟨va, sv1, rfl, hva, hs1⟩ := hs.cons
    obtain ⟨xa, rfl, xa1, -⟩ := hva.int hrg (by omega)
    have ex := xa1 (by omega)
    subst ex
    have hA : ∀ q : Nat, s.heap.size ≤ q → q_A base q := fun q hq => Nat.le_trans C.2.2.2.2.2.2.2.2.2 hq
    have hn : ¬ nI a < 0 := nI_pos (by omega)
    have hN2 : (nI a).toNatClampNeg = a := nI_clamp (by omega)
    have hce : h.1 - n0 + 1 ≤ hf.1 - n0 := by omega
    have hsl : q_ss h - s0 + a ≤ q_ss hf - s0 := by omega
    have h0 : ∀ j, j < a → q_get 0 j ≤ 4294967311 ∧ q_v env [] (q_get 0 j) (.int 0) := fun j _ => by rw [q_get_0]; exact ⟨by decide, q_v.exq _ (Nat.zero_le _) nI_0.symm⟩
    rcases hx with ⟨rfl, hty⟩ | ⟨rfl, hty⟩ | ⟨rfl, hty⟩ | ⟨rfl, hty⟩
    · refine va_newa (a0 := (a, .inl (fun _ => 0))) C.1 C.2.1 (C.2.2.2.2.2.1 _ hl1) hty hK hP hD hS hA (fun _ => rfl) hn hN2 (by show a * _ ≤ _; simp only [componentBytes]; omega) hce hsl hd (fun q cA H1 hK1 hP1 hD1 hS1 => ?_)
      have hpre : q_ad ws <+: q_ad (ws ++ [(q, .inl (cA, a, .inl (fun _ => 0)))]) := by rw [q_ad_app]; exact List.prefix_append _ _
      have hcr : q_c env (q_ad (ws ++ [(q, .inl (cA, a, .inl (fun _ => 0)))])) (tys ++ [(cA, .int)]) (1, a, 0) (.inl (cA, a, .inl (fun _ => 0))) := Or.inr (Or.inl ⟨rfl, cA, tys.length, _, rfl, q_tp _, hq, h0⟩)
      have := (hg p e s m args below meth c H1 locs ls (.ref q :: sv1) (ws ++ [(q, .inl (cA, a, .inl (fun _ => 0)))]) (tys ++ [(cA, .int)]) ad0 n0 s0 C (hw.push (List.prefix_append _ _) hlt hcr) hP1 hK1 hD1 hS1 (hp.trans hpre) (hL.mono hpre) (⟨q_v.mkref (by rw [← hw.1]; exact q_adl) hlt, q_S.mono hpre hs1⟩) (Nat.le_succ_of_le hn0) (by rw [hss]; omega))
      have z1 : h.1 - n0 + 1 = h.1 + 1 - n0 := by omega
      have z2 : q_ss h - s0 + a = q_ss h + a - s0 := by omega
      rw [z1, z2, ← hss]
      exact this
    · refine va_newa (a0 := (a, .inl (fun _ => 0))) C.1 C.2.1 (C.2.2.2.2.2.1 _ hl1) hty hK hP hD hS hA (fun _ => rfl) hn hN2 (by show a * _ ≤ _; simp only [componentBytes]; omega) hce hsl hd (fun q cA H1 hK1 hP1 hD1 hS1 => ?_)
      have hpre : q_ad ws <+: q_ad (ws ++ [(q, .inl (cA, a, .inl (fun _ => 0)))]) := by rw [q_ad_app]; exact List.prefix_append _ _
      have hcr : q_c env (q_ad (ws ++ [(q, .inl (cA, a, .inl (fun _ => 0)))])) (tys ++ [(cA, .byte)]) (3, a, 0) (.inl (cA, a, .inl (fun _ => 0))) := Or.inr (Or.inr (Or.inl ⟨rfl, cA, tys.length, _, rfl, q_tp _, hq, h0⟩))
      have := (hg p e s m args below meth c H1 locs ls (.ref q :: sv1) (ws ++ [(q, .inl (cA, a, .inl (fun _ => 0)))]) (tys ++ [(cA, .byte)]) ad0 n0 s0 C (hw.push (List.prefix_append _ _) hlt hcr) hP1 hK1 hD1 hS1 (hp.trans hpre) (hL.mono hpre) (⟨q_v.mkref (by rw [← hw.1]; exact q_adl) hlt, q_S.mono hpre hs1⟩) (Nat.le_succ_of_le hn0) (by rw [hss]; omega))
      have z1 : h.1 - n0 + 1 = h.1 + 1 - n0 := by omega
      have z2 : q_ss h - s0 + a = q_ss h + a - s0 := by omega
      rw [z1, z2, ← hss]
      exact this
    · refine va_newa (a0 := (a, .inl (fun _ => 0))) C.1 C.2.1 (C.2.2.2.2.2.1 _ hl1) hty hK hP hD hS hA (fun _ => rfl) hn hN2 (by show a * _ ≤ _; simp only [componentBytes]; omega) hce hsl hd (fun q cA H1 hK1 hP1 hD1 hS1 => ?_)
      have hpre : q_ad ws <+: q_ad (ws ++ [(q, .inl (cA, a, .inl (fun _ => 0)))]) := by rw [q_ad_app]; exact List.prefix_append _ _
      have hcr : q_c env (q_ad (ws ++ [(q, .inl (cA, a, .inl (fun _ => 0)))])) (tys ++ [(cA, .boolean)]) (5, a, 0) (.inl (cA, a, .inl (fun _ => 0))) := Or.inr (Or.inr (Or.inr (Or.inl ⟨rfl, cA, tys.length, _, rfl, q_tp _, hq, h0⟩)))
      have := (hg p e s m args below meth c H1 locs ls (.ref q :: sv1) (ws ++ [(q, .inl (cA, a, .inl (fun _ => 0)))]) (tys ++ [(cA, .boolean)]) ad0 n0 s0 C (hw.push (List.prefix_append _ _) hlt hcr) hP1 hK1 hD1 hS1 (hp.trans hpre) (hL.mono hpre) (⟨q_v.mkref (by rw [← hw.1]; exact q_adl) hlt, q_S.mono hpre hs1⟩) (Nat.le_succ_of_le hn0) (by rw [hss]; omega))
      have z1 : h.1 - n0 + 1 = h.1 + 1 - n0 := by omega
      have z2 : q_ss h - s0 + a = q_ss h + a - s0 := by omega
      rw [z1, z2, ← hss]
      exact this
    · refine va_newa (a0 := (a, .inr (.inl (fun _ => 0)))) C.1 C.2.1 (C.2.2.2.2.2.1 _ hl1) hty hK hP hD hS hA (fun _ => rfl) hn hN2 (by show a * _ ≤ _; simp only [componentBytes]; omega) hce hsl hd (fun q cA H1 hK1 hP1 hD1 hS1 => ?_)
      have hpre : q_ad ws <+: q_ad (ws ++ [(q, .inl (cA, a, .inr (.inl (fun _ => 0))))]) := by rw [q_ad_app]; exact List.prefix_append _ _
      have hcr : q_c env (q_ad (ws ++ [(q, .inl (cA, a, .inr (.inl (fun _ => 0))))])) (tys ++ [(cA, .long)]) (7, a, 0) (.inl (cA, a, .inr (.inl (fun _ => 0)))) := Or.inr (Or.inr (Or.inr (Or.inr (Or.inl ⟨rfl, cA, tys.length, _, rfl, q_tp _, hq⟩))))
      have := (hg p e s m args below meth c H1 locs ls (.ref q :: sv1) (ws ++ [(q, .inl (cA, a, .inr (.inl (fun _ => 0))))]) (tys ++ [(cA, .long)]) ad0 n0 s0 C (hw.push (List.prefix_append _ _) hlt hcr) hP1 hK1 hD1 hS1 (hp.trans hpre) (hL.mono hpre) (⟨q_v.mkref (by rw [← hw.1]; exact q_adl) hlt, q_S.mono hpre hs1⟩) (Nat.le_succ_of_le hn0) (by rw [hss]; omega))
      have z1 : h.1 - n0 + 1 = h.1 + 1 - n0 := by omega
      have z2 : q_ss h - s0 + a = q_ss h + a - s0 := by omega
      rw [z1, z2, ← hss]
      exact this
theorem q_s_anewa {n : Nat} (hrg : q_rgs env rg) (hd : decode (q_b i) pc = .ok (.anewarray n, ln)) (hk : q_lnk i pc ln (.anewarray n) x y z) (hN : q_HN l base D env ih i pc ln tl) (hr : q_step rg q_code mem ih d i (q_code i) pc (.anewarray n) x y z tl loc st h = some (hf, r)) : q_G l base D env d i pc loc st h hf r := by
  obtain ⟨e1, hl1⟩ := hk
  subst e1
  cases st with
  | nil => cases hr
  | cons a rr =>
    have hr : (bif Nat.ble a 100000 then q_nw h 9 a 0 (fun h' c => ih d i (q_code i) tl loc (c :: rr) h') else none) = some (hf, r) := hr
    obtain ⟨hq, hr⟩ := q_bifs hr
    have hq := q_ble.mp hq
    obtain ⟨hlt, hr⟩ := q_nw_inv hr
    obtain ⟨hm, hg⟩ := hN d loc _ _ hf r hr
    have hss := q_ss_nw h 9 a 0 hlt
    have hm1 : h.1 + 1 ≤ hf.1 := hm.1
    have hm2 : q_ss h + a ≤ q_ss hf := by rw [← hss]; exact hm.2
    refine ⟨⟨by omega, by omega⟩, fun p e s m args below meth c H locs ls sv ws tys ad0 n0 s0 C hw hP hK hD hS hp hL hs hn0 hs0 => ?_⟩
    obtain ⟨va, sv1, rfl, hva, hs1⟩ := hs.cons
    obtain ⟨xa, rfl, xa1, -⟩ := hva.int hrg (by omega)
    have ex := xa1 (by omega)
    subst ex
    have hA : ∀ q : Nat, s.heap.size ≤ q → q_A base q := fun q hq => Nat.le_trans C.2.2.2.2.2.2.2.2.2 hq
    have hn : ¬ nI a < 0 := nI_pos (by omega)
    have hN2 : (nI a).toNatClampNeg = a := nI_clamp (by omega)
    have hce : h.1 - n0 + 1 ≤ hf.1 - n0 := by omega
    have hsl : q_ss h - s0 + a ≤ q_ss hf - s0 := by omega
    refine va_newq C.1 C.2.1 C.2.2.2.2.1 (C.2.2.2.2.2.1 _ hl1) C.2.2.2.2.2.2.1.2 hK hP hD hS hA hn hN2 (by omega) hce hsl hd (fun q cA H1 hK1 hP1 hD1 hS1 => ?_)
    have hpre : q_ad ws <+: q_ad (ws ++ [(q, .inl (cA, a, .inr (.inr (.inr (.inr (fun _ => none))))))]) := by rw [q_ad_app]; exact List.prefix_append _ _
    have hcr : q_c env (q_ad (ws ++ [(q, .inl (cA, a, .inr (.inr (.inr (.inr (fun _ => none))))))])) (tys ++ [(cA, .object "SandNights$Sand")]) (9, a, 0) (.inl (cA, a, .inr (.inr (.inr (.inr (fun _ => none)))))) := Or.inr (Or.inr (Or.inr (Or.inr (Or.inr ⟨rfl, cA, tys.length, _, rfl, q_tp _, hq, fun j _ => Or.inl ⟨q_get_0 j, rfl⟩⟩))))
    have := (hg p e s m args below meth c H1 locs ls (.ref q :: sv1) (ws ++ [(q, .inl (cA, a, .inr (.inr (.inr (.inr (fun _ => none))))))]) (tys ++ [(cA, .object "SandNights$Sand")]) ad0 n0 s0 C (hw.push (List.prefix_append _ _) hlt hcr) hP1 hK1 hD1 hS1 (hp.trans hpre) (hL.mono hpre) (⟨q_v.mkref (by rw [← hw.1]; exact q_adl) hlt, q_S.mono hpre hs1⟩) (Nat.le_succ_of_le hn0) (by rw [hss]; omega))
    have z1 : h.1 - n0 + 1 = h.1 + 1 - n0 := by omega
    have z2 : q_ss h - s0 + a = q_ss h + a - s0 := by omega
    rw [z1, z2, ← hss]
    exact this
theorem q_s_ret (hrg : q_rgs env rg) (hd : decode (q_b i) pc = .ok (.return_, ln)) (hk : q_lnk i pc ln (.return_) x y z) (hN : q_HN l base D env ih i pc ln tl) (hr : q_step rg q_code mem ih d i (q_code i) pc (.return_) x y z tl loc st h = some (hf, r)) : q_G l base D env d i pc loc st h hf r := by
  obtain ⟨e1, hrt⟩ := hk
  subst e1
  cases st with
  | cons a rr => cases hr
  | nil =>
    have hr : some (h, ([] : List Nat)) = some (hf, r) := hr
    obtain ⟨rfl, rfl⟩ := Prod.mk.inj (Option.some.inj hr)
    refine ⟨⟨Nat.le_refl _, Nat.le_refl _⟩, fun p e s m args below meth c H locs ls sv ws tys ad0 n0 s0 C hw hP hK hD hS hp hL hs hn0 hs0 => ?_⟩
    have hsn := hs.nil
    subst hsn
    have hq2 : ∀ t : State, t.heap = H → s.WarmedH t.vm → q_Qc base D env ad0 h [] args s (.returned none) t := fun t ht hW => ⟨⟨_, ws, tys, rfl, Or.inl ⟨rfl, rfl⟩, hp, hw, by rw [ht]; exact hP, va_K.moved hW.alike hK, hD⟩, hS.F ht⟩
    exact W.vret C.1 C.2.1 (C.2.2.1.trans hrt) hq2 hS.2.2 hd C.2.2.2.2.2.2.2.1
theorem q_s_iret (hrg : q_rgs env rg) (hd : decode (q_b i) pc = .ok (.ireturn, ln)) (hk : q_lnk i pc ln (.ireturn) x y z) (hN : q_HN l base D env ih i pc ln tl) (hr : q_step rg q_code mem ih d i (q_code i) pc (.ireturn) x y z tl loc st h = some (hf, r)) : q_G l base D env d i pc loc st h hf r := by
  obtain ⟨e1, hrt⟩ := hk
  subst e1
  match st, hr with
  | [], hr => cases hr
  | _ :: _ :: _, hr => cases hr
  | [v], hr =>
    have hr : (bif (bif Nat.beq x 0 then q_in v else bif Nat.beq x 1 then Nat.blt v 2 else false) then some (h, [v]) else none) = some (hf, r) := hr
    obtain ⟨hc, hr⟩ := q_bifs hr
    obtain ⟨rfl, rfl⟩ := Prod.mk.inj (Option.some.inj hr)
    refine ⟨⟨Nat.le_refl _, Nat.le_refl _⟩, fun p e s m args below meth c H locs ls sv ws tys ad0 n0 s0 C hw hP hK hD hS hp hL hs hn0 hs0 => ?_⟩
    obtain ⟨va, sv1, rfl, hva, hs1⟩ := hs.cons
    have hsn := hs1.nil
    subst hsn
    have hq2 : ∀ t : State, t.heap = H → s.WarmedH t.vm → q_Qc base D env ad0 h [v] args s (.returned (some va)) t := fun t ht hW => ⟨⟨_, ws, tys, rfl, Or.inr ⟨v, va, rfl, rfl, hva⟩, hp, hw, by rw [ht]; exact hP, va_K.moved hW.alike hK, hD⟩, hS.F ht⟩
    rcases hrt with ⟨rfl, hrt⟩ | ⟨rfl, hrt⟩ | hx2
    · have hc : q_in v = true := hc
      obtain ⟨xa, rfl, -⟩ := hva.int hrg (q_ble.mp hc)
      exact W.iret C.1 C.2.1 (C.2.2.1.trans hrt) hq2 hS.2.2 hd C.2.2.2.2.2.2.2.1
    · have hc : Nat.blt v 2 = true := hc
      have hc := q_blt.mp hc
      obtain ⟨xa, rfl, xa1, -⟩ := hva.int hrg (by omega)
      exact W.zret C.1 C.2.1 (C.2.2.1.trans hrt) (by rw [xa1 (by omega)]; exact (q_fit_z v hc).1) hq2 hS.2.2 hd C.2.2.2.2.2.2.2.1
    · rw [q_iff _ _ (q_bneq.mpr (by omega)), q_iff _ _ (q_bneq.mpr (by omega))] at hc
      cases hc
theorem q_s_aret (hrg : q_rgs env rg) (hd : decode (q_b i) pc = .ok (.areturn, ln)) (hk : q_lnk i pc ln (.areturn) x y z) (hN : q_HN l base D env ih i pc ln tl) (hr : q_step rg q_code mem ih d i (q_code i) pc (.areturn) x y z tl loc st h = some (hf, r)) : q_G l base D env d i pc loc st h hf r := by
  obtain ⟨e1, rt, hrt, hrt2⟩ := hk
  subst e1
  match st, hr with
  | [], hr => cases hr
  | _ :: _ :: _, hr => cases hr
  | [v], hr =>
    have hr : (bif Nat.ble 4294967328 v then some (h, [v]) else none) = some (hf, r) := hr
    obtain ⟨hc, hr⟩ := q_bifs hr
    obtain ⟨rfl, rfl⟩ := Prod.mk.inj (Option.some.inj hr)
    refine ⟨⟨Nat.le_refl _, Nat.le_refl _⟩, fun p e s m args below meth c H locs ls sv ws tys ad0 n0 s0 C hw hP hK hD hS hp hL hs hn0 hs0 => ?_⟩
    obtain ⟨va, sv1, rfl, hva, hs1⟩ := hs.cons
    have hsn := hs1.nil
    subst hsn
    have hq2 : ∀ t : State, t.heap = H → s.WarmedH t.vm → q_Qc base D env ad0 h [v] args s (.returned (some va)) t := fun t ht hW => ⟨⟨_, ws, tys, rfl, Or.inr ⟨v, va, rfl, rfl, hva⟩, hp, hw, by rw [ht]; exact hP, va_K.moved hW.alike hK, hD⟩, hS.F ht⟩
    obtain ⟨a, -, rfl⟩ := hva.ref (q_ble.mp hc)
    exact W.aret C.1 C.2.1 (C.2.2.1.trans hrt) hrt2 (Or.inr ⟨a, rfl⟩) hq2 hS.2.2 hd C.2.2.2.2.2.2.2.1
theorem q_s_oinit {n : Nat} (hz : z = 78) (ho : Cond.instanceMethod Lib.objectInit ∈ q_w0 ∧ Cond.code Lib.objectInit ⟨#[0xb1]⟩ 1 none ∈ q_w0) (hrg : q_rgs env rg) (hd : decode (q_b i) pc = .ok (.invokespecial n, ln)) (hk : q_lnk i pc ln (.invokespecial n) x y z) (hN : q_HN l base D env ih i pc ln tl) (hr : q_step rg q_code mem ih d i (q_code i) pc (.invokespecial n) x y z tl loc st h = some (hf, r)) : q_G l base D env d i pc loc st h hf r := by
  rcases hk with hk | ⟨e1, hk | hk⟩
  · omega
  · subst e1
    subst hz
    cases st with
    | nil => cases hr
    | cons a rr =>
      have hr : (bif Nat.ble 4294967328 a && (Nat.ble (q_len rr) 4 && Nat.ble 1 d) then ih d i (q_code i) tl loc rr h else none) = some (hf, r) := hr
      obtain ⟨hq, hr⟩ := q_bifs hr
      obtain ⟨h1, h2⟩ := q_ands hq
      obtain ⟨h2, h3⟩ := q_ands h2
      have h2 := q_ble.mp h2
      rw [q_len_eq] at h2
      have h3 := q_ble.mp h3
      obtain ⟨hm, hg⟩ := hN d loc _ _ hf r hr
      refine ⟨hm, fun p e s m args below meth c H locs ls sv ws tys ad0 n0 s0 C hw hP hK hD hS hp hL hs hn0 hs0 => ?_⟩
      obtain ⟨va, sv1, rfl, hva, hs1⟩ := hs.cons
      obtain ⟨a2, -, rfl⟩ := hva.ref (q_ble.mp h1)
      obtain ⟨lv, hl, -⟩ := id hL
      have hcs := hs1.cats.2
      refine W.objInit C.1 C.2.1 C.2.2.2.2.1 (C.2.2.2.2.2.1 _ hk.2) (C.2.2.2.2.2.1 _ ho.1) (C.2.2.2.2.2.1 _ ho.2) rfl (hl.1.trans C.2.2.2.1.symm) rfl hd (by show 1 ≤ d; exact h3) ?_ (hg p e s m args below meth c H locs ls (sv1) (ws) (tys) ad0 n0 s0 C (hw) hP hK hD hS (hp) (hL) (hs1) (hn0) (hs0))
      have := lv_room (m := m) (pc := pc) (ls := ls) (rest := (.ref a2 :: sv1 : List Value)) (st := sv1) (by omega)
      show _ ≤ 40 * d
      omega
  · exact absurd hz hk.1
theorem q_s_copy {n : Nat} (hz : z = 77) (ho : Cond.native arraycopyName ∈ q_w0 ∧ Cond.static arraycopyName ∈ q_w0 ∧ Cond.initialized "java/lang/System" ∈ q_w0) (hrg : q_rgs env rg) (hd : decode (q_b i) pc = .ok (.invokestatic n, ln)) (hk : q_lnk i pc ln (.invokestatic n) x y z) (hN : q_HN l base D env ih i pc ln tl) (hr : q_step rg q_code mem ih d i (q_code i) pc (.invokestatic n) x y z tl loc st h = some (hf, r)) : q_G l base D env d i pc loc st h hf r := by
  rcases hk with hk | ⟨e1, hk | hk⟩
  · omega
  · subst e1
    subst hz
    match st, hr with
    | [], hr => cases hr
    | [_], hr => cases hr
    | [_, _], hr => cases hr
    | [_, _, _], hr => cases hr
    | [_, _, _, _], hr => cases hr
    | nn :: dp :: b :: sp :: a :: rr, hr =>
      have hr : q_at h a (fun _ ka la Na => q_at h b (fun kb kb2 lb _ => bif Nat.beq ka 1 && (Nat.beq kb2 1 && (Nat.beq la lb && (Nat.beq nn la && (Nat.beq sp 0 && (Nat.beq dp 0 && (Nat.ble (q_len rr) 4 && (Nat.ble 1 d && Nat.ble la 100000))))))) then ih d i (q_code i) tl loc rr (q_up h kb kb2 lb Na) else none)) = some (hf, r) := hr
      obtain ⟨ja, hc1, ej, hj, hh, hr⟩ := q_at_inv hr
      obtain ⟨jb, hd1, ek, hk2, -, hr⟩ := q_at_inv hr
      obtain ⟨hq, hr2⟩ := q_bifs hr
      obtain ⟨g1, hq⟩ := q_ands hq
      obtain ⟨g2, hq⟩ := q_ands hq
      obtain ⟨g3, hq⟩ := q_ands hq
      obtain ⟨g4, hq⟩ := q_ands hq
      obtain ⟨g5, hq⟩ := q_ands hq
      obtain ⟨g6, hq⟩ := q_ands hq
      obtain ⟨g7, hq⟩ := q_ands hq
      obtain ⟨g8, g9⟩ := q_ands hq
      have g1 := q_beq.mp g1
      have g2 := q_beq.mp g2
      have g3 := q_beq.mp g3
      have g4 := q_beq.mp g4
      have g5 := q_beq.mp g5
      have g6 := q_beq.mp g6
      have g7 := q_ble.mp g7
      rw [q_len_eq] at g7
      have g8 := q_ble.mp g8
      have g9 := q_ble.mp g9
      subst g5
      subst g6
      obtain ⟨hm, hg⟩ := hN d loc _ _ hf r hr2
      refine ⟨q_hmo hm (q_ss_up2 hk2 hh rfl), fun p e s m args below meth c H locs ls sv ws tys ad0 n0 s0 C hw hP hK hD hS hp hL hs hn0 hs0 => ?_⟩
      obtain ⟨vn, sv1, rfl, hvn, hs1⟩ := hs.cons
      obtain ⟨vd, sv2, rfl, hvd, hs2⟩ := hs1.cons
      obtain ⟨vb, sv3, rfl, hvb, hs3⟩ := hs2.cons
      obtain ⟨vs, sv4, rfl, hvs, hs4⟩ := hs3.cons
      obtain ⟨va, sv5, rfl, hva, hs5⟩ := hs4.cons
      obtain ⟨a2, e2, rfl, he, hc⟩ := q_cell hw hva hc1 ej hj
      obtain ⟨b2, e3, rfl, he3, hc3⟩ := q_cell hw hvb hd1 ek hk2
      obtain ⟨cA, t, f, rfl, q2, q3, q4⟩ := hc.arr g1
      obtain ⟨cB, t2, f2, rfl, p2, p3, p4⟩ := hc3.arr g2
      obtain ⟨xn, rfl, xn1, -⟩ := hvn.int hrg (by omega)
      have ex := xn1 (by omega)
      subst ex
      obtain ⟨xd, rfl, xd1, -⟩ := hvd.int hrg (by omega)
      have ex := xd1 (by omega)
      subst ex
      obtain ⟨xs, rfl, xs1, -⟩ := hvs.int hrg (by omega)
      have ex := xs1 (by omega)
      subst ex
      have z0 : (nI 0).toNatClampNeg = 0 := nI_clamp (by decide)
      have zn : (nI nn).toNatClampNeg = nn := nI_clamp (by omega)
      have hc2 : q_c env (q_ad ws) tys ((q_tg 7 h.2 jb).1, (q_tg 7 h.2 jb).2.1, (q_tg 7 h.2 ja).2.2) (.inl (cB, (q_tg 7 h.2 jb).2.1, .inl (va_cpy f f2 0 0 nn))) := Or.inr (Or.inl ⟨g2, cB, t2, _, rfl, p2, p3, fun j hj => by
        have hj : j < (q_tg 7 h.2 jb).2.1 := hj
        have e9 : va_cpy f f2 0 0 nn j = f j := by rw [pk_cpy_in (Nat.zero_le _) (by omega)]; simp
        rw [e9]
        exact q4 j (by omega)⟩)
      obtain ⟨w1, w2, w3⟩ := q_wset hw he3 hc2 rfl
      obtain ⟨lv, hl, -⟩ := id hL
      have hcs := hs5.cats.2
      refine va_copyi (ty := .int) C.1 C.2.1 (C.2.2.2.1.trans hl.1.symm) C.2.2.2.2.1 (C.2.2.2.2.2.1 _ hk.2) (C.2.2.2.2.2.1 _ ho.1) (C.2.2.2.2.2.1 _ ho.2.1) (C.2.2.2.2.2.1 _ ho.2.2) hK hP hD hS ja jb t t2 he he3 q2 p2 rfl (nI_pos (by decide)) (nI_pos (by decide)) (nI_pos (by omega)) (by rw [z0, zn]; omega) (by rw [z0, zn]; omega) (fun _ _ => rfl) (by show 1 ≤ d; exact g8) ?_ hd (fun H1 locs1 hP1 hD1 hS1 => ?_)
      · have e8 : nativeFrameWords "java/lang/System" "arraycopy" 5 = 7 := by decide +kernel
        rw [e8]
        show _ ≤ 40 * d
        omega
      · rw [z0, zn] at hP1 hD1
        have := (hg p e s m args below meth c H1 locs1 ls (sv5) (ws.set jb (b2, .inl (cB, (q_tg 7 h.2 jb).2.1, .inl (va_cpy f f2 0 0 nn)))) (tys) ad0 n0 s0 C (w1) hP1 hK hD1 hS1 (by rw [w2]; exact hp) (by rw [w2]; exact hL) (by rw [w2]; exact hs5) (hn0) (by rw [w3]; exact hs0))
        rw [w3] at this
        exact this
  · exact absurd hz hk.1
end QI
