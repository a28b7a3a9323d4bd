/-! ===== calls of texts: nothing stays open ===== -/
theorem tx_qlen {t : Nat} (h : t < 2) : Nat.add 2147483648 (q_nth z_lens 0 t) = q_qb (nI (z_lens.getD t 0)) := by
  rcases (show t = 0 ∨ t = 1 by omega) with rfl | rfl <;> decide +kernel
section TO
variable {l : Launch} {base : Nat} {D : va_G} {sa : Nat → Nat} {g : z_G} {J : va_W → List Nat → Prop}
theorem tx_OT : z_OT l base D sa g J := by
  intro ih d i pc ln x n tl V L st sp cx os hd hk hgx hN hr
  obtain ⟨rfl, hx3, hlk⟩ := hk rfl rfl
  unfold z_txt at hr
  obtain ⟨h0, hr⟩ := q_bifs hr
  obtain ⟨h6, hm⟩ := q_ands h0
  have h6 := q_ble.mp h6
  have hm := q_ble.mp hm
  intro p e s m args below meth c Q w0 t0 vs0 H locs ls sv ws tys ts vs C hp hv hL hs hX hf
  obtain ⟨⟨adV, k1⟩, -, -, k4, k5⟩ := id C.2.1
  have hT : tx_Tx base sa adV s := ⟨k1, k4, k5⟩
  have S : CallFix p m c (q_b i) (q_ml i) s args q_w0 (q_y i).cls := ⟨C.1.1, C.1.2.1, C.1.2.2.2.1, C.1.2.2.2.2.1, C.1.2.2.2.2.2.1⟩
  have hbase : base ≤ s.heap.size := C.1.2.2.2.2.2.2.2.2.2
  have hS := hp.2.2.2.2.1
  have hR2 : 9 * V.2.2.2.2.2 ≤ (q_rm d.1 (9 * d.2) (446 * d.2)).cells ∧ 446 * V.2.2.2.2.2 ≤ (q_rm d.1 (9 * d.2) (446 * d.2)).slots := ⟨by show 9 * V.2.2.2.2.2 ≤ 9 * d.2; omega, by show 446 * V.2.2.2.2.2 ≤ 446 * d.2; omega⟩
  have hR : ∀ dd ml : Nat, dd ≤ 3 → ml ≤ 2 → dd + 1 ≤ (q_rm d.1 (9 * d.2) (446 * d.2)).frames ∧ 8 + (ml + 11) + 40 * dd ≤ (q_rm d.1 (9 * d.2) (446 * d.2)).locals := fun dd ml h1 h2 => ⟨by show dd + 1 ≤ d.1; omega, by show 8 + (ml + 11) + 40 * dd ≤ 40 * d.1; omega⟩
  obtain ⟨hll, lv, hl, -⟩ := id hL
  have hp' : ∀ locs1 : List Loc, va_S (q_A base) s.heap H locs1 → z_Hp base D g.1 g.2.1 s w0 t0 H locs1 ws tys ts := fun locs1 h => ⟨hp.1, hp.2.1, hp.2.2.1, hp.2.2.2.1, h, hp.2.2.2.2.2⟩
  have any : ∀ (r : List z_C) (sv2 : List Value) (locs1 : List Loc) (y : Int32), z_an V (fun w c => ih d i (q_code i) tl w L (c :: r) sp cx) = some os → z_Sr sa (q_ad ws) ts vs r sv2 → va_S (q_A base) s.heap H locs1 → W p l e (q_rm d.1 (9 * d.2) (446 * d.2)) s m args below meth c H locs1 (9 * V.2.2.2.2.2) (446 * V.2.2.2.2.2) Q (F0 m (pc + 3) ls (.int y :: sv2)) := fun r sv2 locs1 y hr hs2 h => by
    have hres : z_Res sa (q_ad ws) ts V vs (fun w c => ih d i (q_code i) tl w L (c :: r) sp cx) os (.int y) := z_an_s hr hv.2.1
    obtain ⟨W1, c1, vs1, k1, k2, k3, k4, k5⟩ := hres
    exact z_go (hN W1 L (c1 :: r) cx os hgx k1) hgx C (hp' locs1 h) (hv.ext k2 k3 k4) k2 (hL.mono k2 List.prefix_rfl List.prefix_rfl) (sv := .int y :: sv2) ⟨k5, z_Sr.mono k2 List.prefix_rfl List.prefix_rfl hs2⟩ hX hf (by rw [k4])
  rcases (show x = 0 ∨ x = 1 ∨ x = 2 by omega) with rfl | rfl | rfl
  · match st, hr, hs with
    | [], hr, _ =>
      have hr : (none : Option (List z_O)) = some os := hr
      cases hr
    | a :: r, hr, hs =>
      have hr : (bif Nat.beq a.1 4 && (Nat.blt a.2.2 2 && Nat.ble (z_cats r) 8) then ih d i (q_code i) tl V L ((0, 0, Nat.add 2147483648 (q_nth z_lens 0 a.2.2)) :: r) sp cx else none) = some os := hr
      obtain ⟨h1, hr⟩ := q_bifs hr
      obtain ⟨h4, h1⟩ := q_ands h1
      obtain ⟨h2, h8⟩ := q_ands h1
      have h2 := q_blt.mp h2
      have h8 := q_ble.mp h8
      obtain ⟨va, sv2, rfl, hva, hs2⟩ := hs.cons
      have ea := hva.txt (q_beq.mp h4)
      subst ea
      have hcs := z_cats_s hs2
      rw [tx_qlen h2] at hr
      refine tx_virt (As := []) (rest := sv2) S hT hbase (tx_m2 h2) tx_c2 tx_n2 hlk tx_i2 tx_s2 tx_p2 (hR 1 1 (by decide) (by decide)) hR2 (vk_recv hT.1 h2 hS) hS hl.1 (by omega) hd (fun v locs1 hv1 hS1 => ?_)
      subst hv1
      exact z_go (hN V L _ cx os hgx hr) hgx C (hp' locs1 hS1) hv List.prefix_rfl hL (sv := .int (nI (z_lens.getD a.2.2 0)) :: sv2) ⟨z_v.mkcon hv.2.1, hs2⟩ hX hf rfl
  · rw [q_iff _ _ (show Nat.beq 1 0 = false from rfl)] at hr
    match st, hr, hs with
    | [], hr, _ =>
      have hr : (none : Option (List z_O)) = some os := hr
      cases hr
    | [_], hr, _ =>
      have hr : (none : Option (List z_O)) = some os := hr
      cases hr
    | j :: a :: r, hr, hs =>
      have hr : (bif Nat.beq a.1 4 && (Nat.blt a.2.2 2 && (Nat.beq j.1 0 && Nat.ble (z_cats r) 8)) then (bif Nat.beq 1 1 then (bif z_po V j && Nat.blt (z_ih V j) (Nat.add 2147483648 (q_nth z_lens 0 a.2.2)) then z_an V (fun w c => ih d i (q_code i) tl w L (c :: r) sp cx) else none) else z_an V (fun w c => ih d i (q_code i) tl w L (c :: r) sp cx)) else none) = some os := hr
      obtain ⟨h1, hr⟩ := q_bifs hr
      obtain ⟨h4, h1⟩ := q_ands h1
      obtain ⟨h2, h1⟩ := q_ands h1
      obtain ⟨hj, h8⟩ := q_ands h1
      have h2 := q_blt.mp h2
      have h8 := q_ble.mp h8
      rw [q_ift _ _ (show Nat.beq 1 1 = true from rfl)] at hr
      obtain ⟨h1, hr⟩ := q_bifs hr
      obtain ⟨hpo, hhi⟩ := q_ands h1
      have hpo : 2147483648 ≤ z_il V j := q_ble.mp hpo
      have hhi := q_blt.mp hhi
      obtain ⟨vj, sv1, rfl, hvj, hs1⟩ := hs.cons
      obtain ⟨va, sv2, rfl, hva, hs2⟩ := hs1.cons
      have ea := hva.txt (q_beq.mp h4)
      subst ea
      obtain ⟨y, rfl, b1, b2⟩ := hvj.bnd hv.2.1 (q_beq.mp hj)
      have hcs := z_cats_s hs2
      have hn := tx_lens h2
      rw [tx_qlen h2, z_qnI hn] at hhi
      obtain ⟨k, hk⟩ : ∃ k, q_qb y = 2147483648 + k := ⟨q_qb y - 2147483648, by omega⟩
      have hkl : k < z_lens.getD a.2.2 0 := by omega
      have ey := h_qv (by omega) hk
      subst ey
      refine tx_virt (As := [.int (nI k)]) (rest := sv2) S hT hbase (tx_m6 h2 hkl) tx_c6 tx_n6 hlk tx_i6 tx_s6 tx_p6 (hR 3 2 (by decide) (by decide)) hR2 (vk_recv hT.1 h2 hS) hS hl.1 (by omega) hd (fun v locs1 hv1 hS1 => ?_)
      obtain ⟨r0, rfl⟩ := hv1
      exact any r sv2 locs1 r0 hr hs2 hS1
  · rw [q_iff _ _ (show Nat.beq 2 0 = false from rfl)] at hr
    match st, hr, hs with
    | [], hr, _ =>
      have hr : (none : Option (List z_O)) = some os := hr
      cases hr
    | [_], hr, _ =>
      have hr : (none : Option (List z_O)) = some os := hr
      cases hr
    | j :: a :: r, hr, hs =>
      have hr : (bif Nat.beq a.1 4 && (Nat.blt a.2.2 2 && (Nat.beq j.1 0 && Nat.ble (z_cats r) 8)) then (bif Nat.beq 2 1 then (bif z_po V j && Nat.blt (z_ih V j) (Nat.add 2147483648 (q_nth z_lens 0 a.2.2)) then z_an V (fun w c => ih d i (q_code i) tl w L (c :: r) sp cx) else none) else z_an V (fun w c => ih d i (q_code i) tl w L (c :: r) sp cx)) else none) = some os := hr
      obtain ⟨h1, hr⟩ := q_bifs hr
      obtain ⟨h4, h1⟩ := q_ands h1
      obtain ⟨h2, h1⟩ := q_ands h1
      obtain ⟨hj, h8⟩ := q_ands h1
      have h2 := q_blt.mp h2
      have h8 := q_ble.mp h8
      obtain ⟨vj, sv1, rfl, hvj, hs1⟩ := hs.cons
      obtain ⟨va, sv2, rfl, hva, hs2⟩ := hs1.cons
      have ea := hva.txt (q_beq.mp h4)
      subst ea
      rw [q_iff _ _ (show Nat.beq 2 1 = false from rfl)] at hr
      obtain ⟨y, rfl, -, -⟩ := hvj.bnd hv.2.1 (q_beq.mp hj)
      have hcs := z_cats_s hs2
      refine tx_virt (As := [.int y]) (rest := sv2) S hT hbase (tx_m13 h2) tx_c13 tx_n13 hlk tx_i13 tx_s13 tx_p13 (hR 3 2 (by decide) (by decide)) hR2 (vk_recv hT.1 h2 hS) hS hl.1 (by omega) hd (fun v locs1 hv1 hS1 => ?_)
      obtain ⟨r0, rfl⟩ := hv1
      exact any r sv2 locs1 r0 hr hs2 hS1
end TO
