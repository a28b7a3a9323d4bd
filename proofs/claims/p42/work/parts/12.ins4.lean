/-! ===== instruction by instruction: cells are written and made ===== -/
/-- a world with one cell written, for what follows -/
theorem q_wset {env : Nat → Int32} {h : q_H} {ws : va_W} {tys : List (ClassId × FieldType)} (hw : q_W env h ws tys) {k a : Nat} {e e' : va_E} (he : ws[k]? = some (a, e)) {kd ln N : Nat} (hc : q_c env (q_ad ws) tys (kd, ln, N) e') (hl : (q_tg 7 h.2 k).2.1 = ln) : q_W env (q_up h k kd ln N) (ws.set k (a, e')) tys ∧ q_ad (ws.set k (a, e')) = q_ad ws ∧ q_ss (q_up h k kd ln N) = q_ss h := by
  have hk : k < h.1 := by rw [← hw.1]; exact (List.getElem?_eq_some_iff.mp he).1
  exact ⟨hw.set he hc, q_ad_set ws k a e e' he, q_ss_up h k kd ln N hk hw.2.1 hl⟩
theorem q_ss_up2 {h : q_H} {k kd ln N : Nat} (hk : k < h.1) (hh : h.1 ≤ 128) (hl : (q_tg 7 h.2 k).2.1 = ln) : q_ss (q_up h k kd ln N) = q_ss h := q_ss_up h k kd ln N hk hh hl
/-- the numbers of an array with one written -/
theorem q_ca_set {env : Nat → Int32} {N ln b v : Nat} {f : Nat → Int32} {xv : Int32} (q4 : ∀ j, j < ln → q_get N j ≤ 4294967311 ∧ q_v env [] (q_get N j) (.int (f j))) (hv : v ≤ 4294967311) (hvv : q_v env [] v (.int xv)) : ∀ j, j < ln → q_get (q_set N b v) j ≤ 4294967311 ∧ q_v env [] (q_get (q_set N b v) j) (.int (upd f b xv j)) := by
  intro j hj
  rw [q_get_set N b v j (by omega)]
  by_cases e : j = b
  · subst e
    rw [if_pos rfl, pk_us]
    exact ⟨hv, hvv⟩
  · rw [if_neg e, pk_un e]
    exact q4 j hj
theorem q_nar_b : ∀ v : Nat, v < 2 → vp_nar .byte (nI v) = nI v := by decide +kernel
theorem q_nar_z : ∀ v : Nat, v < 2 → vp_nar .boolean (nI v) = nI v := by decide +kernel
theorem q_fit_z : ∀ v : Nat, v < 2 → narrow .boolean (.int (nI v)) = .int (nI v) ∧ fits .boolean (.int (nI v)) = true := by decide +kernel
section QI
variable {l : Launch} {base : Nat} {D : va_G} {env : Nat → Int32} {rg : Nat → Nat × Nat} {mem : q_M} {ih : q_F} {d i pc ln x y z loc : Nat} {tl : List q_I} {st : List Nat} {h hf : q_H} {r : List Nat}
theorem q_s_iastore (hrg : q_rgs env rg) (hd : decode (q_b i) pc = .ok (.iastore, ln)) (hk : q_lnk i pc ln (.iastore) x y z) (hN : q_HN l base D env ih i pc ln tl) (hr : q_step rg q_code mem ih d i (q_code i) pc (.iastore) x y z tl loc st h = some (hf, r)) : q_G l base D env d i pc loc st h hf r := by
  have e1 : ln = 1 := hk
  subst e1
  match st, hr with
  | [], hr => cases hr
  | [_], hr => cases hr
  | [_, _], hr => cases hr
  | v :: b :: a :: rr, hr =>
    have hr : q_at h a (fun k kd ln N => bif Nat.beq kd 1 && (Nat.blt b ln && q_in v) then q_fr (q_set N b v) (fun N' => ih d i (q_code i) tl loc rr (q_up h k kd ln N')) else none) = some (hf, r) := hr
    obtain ⟨j, hc1, ej, hj, hh, hr⟩ := q_at_inv hr
    obtain ⟨hq, hr⟩ := q_bifs hr
    rw [q_fr_eq] at hr
    obtain ⟨h1, h2⟩ := q_ands hq
    obtain ⟨h2, h3⟩ := q_ands h2
    have h1 := q_beq.mp h1
    have h2 := q_blt.mp h2
    have h3 := q_ble.mp h3
    obtain ⟨hm, hg⟩ := hN d loc _ _ hf r hr
    refine ⟨q_hmo hm (q_ss_up2 hj hh rfl), fun p e s m args below meth c H locs ls sv ws tys ad0 n0 s0 C hw hP hK hD hS hp hL hs hn0 hs0 => ?_⟩
    obtain ⟨vv, sv1, rfl, hvv, hs1⟩ := hs.cons
    obtain ⟨vb, sv2, rfl, hvb, hs2⟩ := hs1.cons
    obtain ⟨va, sv3, rfl, hva, hs3⟩ := hs2.cons
    obtain ⟨a2, e2, rfl, he, hc⟩ := q_cell hw hva hc1 ej hj
    obtain ⟨cA, t, f, rfl, q2, q3, q4⟩ := hc.arr h1
    obtain ⟨xb, rfl, xb1, -⟩ := hvb.int hrg (by omega)
    have ex := xb1 (by omega)
    subst ex
    obtain ⟨xv, rfl, -⟩ := hvv.int hrg h3
    have hc2 : q_c env (q_ad ws) tys ((q_tg 7 h.2 j).1, (q_tg 7 h.2 j).2.1, q_set (q_tg 7 h.2 j).2.2 b v) (.inl (cA, (q_tg 7 h.2 j).2.1, .inl (upd f b xv))) := Or.inr (Or.inl ⟨h1, cA, t, _, rfl, q2, q3, q_ca_set q4 h3 (hvv.int0 h3)⟩)
    obtain ⟨w1, w2, w3⟩ := q_wset hw he hc2 rfl
    refine va_iast C.1 C.2.1 hK hP hD hS _ t he q2 (vp_in_nI h2 (by omega)) hd (fun H1 locs1 hP1 hD1 hS1 => ?_)
    rw [q_clamp h2 q3] at hP1 hD1
    have := (hg p e s m args below meth c H1 locs1 ls (sv3) (ws.set j (a2, .inl (cA, (q_tg 7 h.2 j).2.1, .inl (upd f b xv)))) (tys) ad0 n0 s0 C (w1) hP1 hK hD1 hS1 (by rw [w2]; exact hp) (by rw [w2]; exact hL) (by rw [w2]; exact hs3) (hn0) (by rw [w3]; exact hs0))
    rw [w3] at this
    exact this
theorem q_s_bastore (hrg : q_rgs env rg) (hd : decode (q_b i) pc = .ok (.bastore, ln)) (hk : q_lnk i pc ln (.bastore) x y z) (hN : q_HN l base D env ih i pc ln tl) (hr : q_step rg q_code mem ih d i (q_code i) pc (.bastore) x y z tl loc st h = some (hf, r)) : q_G l base D env d i pc loc st h hf r := by
  have e1 : ln = 1 := hk
  subst e1
  match st, hr with
  | [], hr => cases hr
  | [_], hr => cases hr
  | [_, _], hr => cases hr
  | v :: b :: a :: rr, hr =>
    have hr : q_at h a (fun k kd ln N => bif (Nat.beq kd 3 || (Nat.beq kd 5 && Nat.blt v 2)) && (Nat.blt b ln && q_in v) then q_fr (q_set N b (bif Nat.blt v 2 then v else 4294967296)) (fun N' => ih d i (q_code i) tl loc rr (q_up h k kd ln N')) else none) = some (hf, r) := hr
    obtain ⟨j, hc1, ej, hj, hh, hr⟩ := q_at_inv hr
    obtain ⟨hq, hr⟩ := q_bifs hr
    rw [q_fr_eq] at hr
    obtain ⟨h1, h2⟩ := q_ands hq
    obtain ⟨h2, h3⟩ := q_ands h2
    have h2 := q_blt.mp h2
    have h3 := q_ble.mp h3
    obtain ⟨hm, hg⟩ := hN d loc _ _ hf r hr
    refine ⟨q_hmo hm (q_ss_up2 hj hh rfl), fun p e s m args below meth c H locs ls sv ws tys ad0 n0 s0 C hw hP hK hD hS hp hL hs hn0 hs0 => ?_⟩
    obtain ⟨vv, sv1, rfl, hvv, hs1⟩ := hs.cons
    obtain ⟨vb, sv2, rfl, hvb, hs2⟩ := hs1.cons
    obtain ⟨va, sv3, rfl, hva, hs3⟩ := hs2.cons
    obtain ⟨a2, e2, rfl, he, hc⟩ := q_cell hw hva hc1 ej hj
    rcases q_ors h1 with h1 | h1
    · have h1 := q_beq.mp h1
      obtain ⟨cA, t, f, rfl, q2, q3, q4⟩ := hc.arb h1
      obtain ⟨xb, rfl, xb1, -⟩ := hvb.int hrg (by omega)
      have ex := xb1 (by omega)
      subst ex
      obtain ⟨xv, rfl, xv1, -⟩ := hvv.int hrg h3
      have hst : (bif Nat.blt v 2 then v else 4294967296) ≤ 4294967311 ∧ q_v env [] (bif Nat.blt v 2 then v else 4294967296) (.int (vp_nar .byte xv)) := by
        cases hb2 : Nat.blt v 2 with
        | true =>
          rw [q_ift _ _ rfl]
          have hb2 := q_blt.mp hb2
          rw [xv1 (by omega), q_nar_b v hb2]
          exact ⟨by omega, q_v.ex _ (by omega)⟩
        | false =>
          rw [q_iff _ _ rfl]
          exact ⟨by decide, q_v.top _ _⟩
      have hc2 : q_c env (q_ad ws) tys ((q_tg 7 h.2 j).1, (q_tg 7 h.2 j).2.1, q_set (q_tg 7 h.2 j).2.2 b (bif Nat.blt v 2 then v else 4294967296)) (.inl (cA, (q_tg 7 h.2 j).2.1, .inl (upd f b (vp_nar .byte xv)))) := Or.inr (Or.inr (Or.inl ⟨h1, cA, t, _, rfl, q2, q3, q_ca_set q4 hst.1 hst.2⟩))
      obtain ⟨w1, w2, w3⟩ := q_wset hw he hc2 rfl
      refine va_bast C.1 C.2.1 hK hP hD hS _ t he q2 (vp_in_nI h2 (by omega)) hd (fun H1 locs1 hP1 hD1 hS1 => ?_)
      rw [q_clamp h2 q3] at hP1 hD1
      have := (hg p e s m args below meth c H1 locs1 ls (sv3) (ws.set j (a2, .inl (cA, (q_tg 7 h.2 j).2.1, .inl (upd f b (vp_nar .byte xv))))) (tys) ad0 n0 s0 C (w1) hP1 hK hD1 hS1 (by rw [w2]; exact hp) (by rw [w2]; exact hL) (by rw [w2]; exact hs3) (hn0) (by rw [w3]; exact hs0))
      rw [w3] at this
      exact this
    · obtain ⟨h1, -⟩ := q_ands h1
      have h1 := q_beq.mp h1
      obtain ⟨cA, t, f, rfl, q2, q3, q4⟩ := hc.arz h1
      obtain ⟨xb, rfl, xb1, -⟩ := hvb.int hrg (by omega)
      have ex := xb1 (by omega)
      subst ex
      obtain ⟨xv, rfl, xv1, -⟩ := hvv.int hrg h3
      have hst : (bif Nat.blt v 2 then v else 4294967296) ≤ 4294967311 ∧ q_v env [] (bif Nat.blt v 2 then v else 4294967296) (.int (vp_nar .boolean xv)) := by
        cases hb2 : Nat.blt v 2 with
        | true =>
          rw [q_ift _ _ rfl]
          have hb2 := q_blt.mp hb2
          rw [xv1 (by omega), q_nar_z v hb2]
          exact ⟨by omega, q_v.ex _ (by omega)⟩
        | false =>
          rw [q_iff _ _ rfl]
          exact ⟨by decide, q_v.top _ _⟩
      have hc2 : q_c env (q_ad ws) tys ((q_tg 7 h.2 j).1, (q_tg 7 h.2 j).2.1, q_set (q_tg 7 h.2 j).2.2 b (bif Nat.blt v 2 then v else 4294967296)) (.inl (cA, (q_tg 7 h.2 j).2.1, .inl (upd f b (vp_nar .boolean xv)))) := Or.inr (Or.inr (Or.inr (Or.inl ⟨h1, cA, t, _, rfl, q2, q3, q_ca_set q4 hst.1 hst.2⟩)))
      obtain ⟨w1, w2, w3⟩ := q_wset hw he hc2 rfl
      refine va_zast C.1 C.2.1 hK hP hD hS _ t he q2 (vp_in_nI h2 (by omega)) hd (fun H1 locs1 hP1 hD1 hS1 => ?_)
      rw [q_clamp h2 q3] at hP1 hD1
      have := (hg p e s m args below meth c H1 locs1 ls (sv3) (ws.set j (a2, .inl (cA, (q_tg 7 h.2 j).2.1, .inl (upd f b (vp_nar .boolean xv))))) (tys) ad0 n0 s0 C (w1) hP1 hK hD1 hS1 (by rw [w2]; exact hp) (by rw [w2]; exact hL) (by rw [w2]; exact hs3) (hn0) (by rw [w3]; exact hs0))
      rw [w3] at this
      exact this
theorem q_s_aastore (hrg : q_rgs env rg) (hd : decode (q_b i) pc = .ok (.aastore, ln)) (hk : q_lnk i pc ln (.aastore) x y z) (hN : q_HN l base D env ih i pc ln tl) (hr : q_step rg q_code mem ih d i (q_code i) pc (.aastore) x y z tl loc st h = some (hf, r)) : q_G l base D env d i pc loc st h hf r := by
  have e1 : ln = 1 := hk
  subst e1
  match st, hr with
  | [], hr => cases hr
  | [_], hr => cases hr
  | [_, _], hr => cases hr
  | v :: b :: a :: rr, hr =>
    have hr : q_at h a (fun k kd ln N => q_at h v (fun _ kv _ _ => bif Nat.beq kd 9 && (Nat.beq kv 10 && Nat.blt b ln) then q_fr (q_set N b v) (fun N' => ih d i (q_code i) tl loc rr (q_up h k kd ln N')) else none)) = some (hf, r) := hr
    obtain ⟨j, hc1, ej, hj, hh, hr⟩ := q_at_inv hr
    obtain ⟨k, hd1, ek, hk2, -, hr⟩ := q_at_inv hr
    obtain ⟨hq, hr⟩ := q_bifs hr
    rw [q_fr_eq] at hr
    obtain ⟨h1, h2⟩ := q_ands hq
    obtain ⟨h2, h3⟩ := q_ands h2
    have h1 := q_beq.mp h1
    have h2 := q_beq.mp h2
    have h3 := q_blt.mp h3
    obtain ⟨hm, hg⟩ := hN d loc _ _ hf r hr
    refine ⟨q_hmo hm (q_ss_up2 hj hh rfl), fun p e s m args below meth c H locs ls sv ws tys ad0 n0 s0 C hw hP hK hD hS hp hL hs hn0 hs0 => ?_⟩
    obtain ⟨vv, sv1, rfl, hvv, hs1⟩ := hs.cons
    obtain ⟨vb, sv2, rfl, hvb, hs2⟩ := hs1.cons
    obtain ⟨va, sv3, rfl, hva, hs3⟩ := hs2.cons
    obtain ⟨a2, e2, rfl, he, hc⟩ := q_cell hw hva hc1 ej hj
    obtain ⟨cA, t, f, rfl, q2, q3, q4⟩ := hc.arq h1
    obtain ⟨b2, e3, rfl, he3, hc3⟩ := q_cell hw hvv hd1 ek hk2
    obtain ⟨fs, rfl, -⟩ := hc3.obj (x := 5) (by omega)
    obtain ⟨xb, rfl, xb1, -⟩ := hvb.int hrg (by omega)
    have ex := xb1 (by omega)
    subst ex
    have hv34 : v < 2 ^ 34 := by have := hvv.lt; omega
    have hvr : ∃ a3, (q_ad ws)[v - 4294967328]? = some a3 ∧ some b2 = some a3 := ⟨b2, by rw [← ek, List.getElem?_map, he3]; rfl, rfl⟩
    have hv128 : v < 4294967456 := by have := hw.2.1; omega
    have hc2 : q_c env (q_ad ws) tys ((q_tg 7 h.2 j).1, (q_tg 7 h.2 j).2.1, q_set (q_tg 7 h.2 j).2.2 b v) (.inl (cA, (q_tg 7 h.2 j).2.1, .inr (.inr (.inr (.inr (va_up f b (some b2))))))) := Or.inr (Or.inr (Or.inr (Or.inr (Or.inr ⟨h1, cA, t, _, rfl, q2, q3, fun j2 hj2 => by
      show (q_get (q_set (q_tg 7 h.2 j).2.2 b v) j2 = 0 ∧ _) ∨ (4294967328 ≤ q_get (q_set (q_tg 7 h.2 j).2.2 b v) j2 ∧ q_get (q_set (q_tg 7 h.2 j).2.2 b v) j2 < 4294967456 ∧ ∃ a3, (q_ad ws)[q_get (q_set (q_tg 7 h.2 j).2.2 b v) j2 - 4294967328]? = some a3 ∧ _)
      rw [q_get_set _ b v j2 hv34]
      by_cases e : j2 = b
      · subst e
        rw [if_pos rfl]
        refine Or.inr ⟨hd1, hv128, b2, ?_, by simp [va_up]⟩
        rw [← ek, List.getElem?_map, he3]; rfl
      · rw [if_neg e]
        simp only [va_up, e, if_false]
        exact q4 j2 hj2⟩))))
    obtain ⟨w1, w2, w3⟩ := q_wset hw he hc2 rfl
    refine va_astq (r := ("SandNights$Sand", q_F5, 11)) C.1 C.2.1 hK hP hD hS _ t k 5 he q2 he3 rfl (vp_in_nI h3 (by omega)) hd (fun H1 locs1 hP1 hD1 hS1 => ?_)
    rw [q_clamp h3 q3] at hP1 hD1
    have := (hg p e s m args below meth c H1 locs1 ls (sv3) (ws.set j (a2, .inl (cA, (q_tg 7 h.2 j).2.1, .inr (.inr (.inr (.inr (va_up f b (some b2)))))))) (tys) ad0 n0 s0 C (w1) hP1 hK hD1 hS1 (by rw [w2]; exact hp) (by rw [w2]; exact hL) (by rw [w2]; exact hs3) (hn0) (by rw [w3]; exact hs0))
    rw [w3] at this
    exact this
theorem q_s_put {n : Nat} (hrg : q_rgs env rg) (hd : decode (q_b i) pc = .ok (.putfield n, ln)) (hcl : q_clok) (hk : q_lnk i pc ln (.putfield n) x y z) (hN : q_HN l base D env ih i pc ln tl) (hr : q_step rg q_code mem ih d i (q_code i) pc (.putfield n) x y z tl loc st h = some (hf, r)) : q_G l base D env d i pc loc st h hf r := by
  obtain ⟨e1, rc, hrc, hy, hlk, hfin, ty, hty, hz⟩ := hk
  subst e1
  match st, hr with
  | [], hr => cases hr
  | [_], hr => cases hr
  | v :: a :: rr, hr =>
    have hr : q_at h a (fun k kd ln N => bif Nat.beq kd (Nat.mul 2 x) && (Nat.blt y ln && (bif Nat.beq z 0 then q_in v else bif Nat.beq z 1 then Nat.blt v 2 else bif Nat.beq z 2 then (Nat.ble 4294967328 v || Nat.beq v 4294967312) else Nat.beq v 4294967314)) then q_fr (q_set N y (bif Nat.beq z 3 then 4294967313 else v)) (fun N' => ih d i (q_code i) tl loc rr (q_up h k kd ln N')) else none) = some (hf, r) := hr
    obtain ⟨j, hc1, ej, hj, hh, hr⟩ := q_at_inv hr
    obtain ⟨hq, hr⟩ := q_bifs hr
    rw [q_fr_eq] at hr
    obtain ⟨h1, h2⟩ := q_ands hq
    obtain ⟨h2, h3⟩ := q_ands h2
    have h1 : (q_tg 7 h.2 j).1 = 2 * x := q_beq.mp h1
    have h2 := q_blt.mp h2
    obtain ⟨hm, hg⟩ := hN d loc _ _ hf r hr
    refine ⟨q_hmo hm (q_ss_up2 hj hh rfl), fun p e s m args below meth c H locs ls sv ws tys ad0 n0 s0 C hw hP hK hD hS hp hL hs hn0 hs0 => ?_⟩
    obtain ⟨vv, sv1, rfl, hvv, hs1⟩ := hs.cons
    obtain ⟨va, sv2, rfl, hva, hs2⟩ := hs1.cons
    obtain ⟨a2, e2, rfl, he, hc⟩ := q_cell hw hva hc1 ej hj
    obtain ⟨fs, rfl, q2, q3⟩ := hc.obj h1
    have hval : narrow ty vv = vv ∧ fits ty vv = true := by
      rcases hz with ⟨rfl, rfl⟩ | ⟨rfl, rfl⟩ | ⟨rfl, ht⟩ | ⟨rfl, rfl⟩
      · have h3 : q_in v = true := h3
        obtain ⟨xv, rfl, -⟩ := hvv.int hrg (q_ble.mp h3)
        exact ⟨rfl, rfl⟩
      · have h3 : Nat.blt v 2 = true := h3
        have h3 := q_blt.mp h3
        obtain ⟨xv, rfl, xv1, -⟩ := hvv.int hrg (by omega)
        rw [xv1 (by omega)]
        exact q_fit_z v h3
      · have h3 : (Nat.ble 4294967328 v || Nat.beq v 4294967312) = true := h3
        rcases q_ors h3 with h3 | h3
        · obtain ⟨k, -, rfl⟩ := hvv.ref (q_ble.mp h3)
          rcases ht with ⟨n, rfl⟩ | ⟨t, rfl⟩ <;> exact ⟨rfl, rfl⟩
        · rw [q_beq.mp h3] at hvv
          rw [hvv.nul]
          rcases ht with ⟨n, rfl⟩ | ⟨t, rfl⟩ <;> exact ⟨rfl, rfl⟩
      · have h3 : Nat.beq v 4294967314 = true := h3
        rw [q_beq.mp h3] at hvv
        obtain ⟨xv, rfl⟩ := hvv.lng
        exact ⟨rfl, rfl⟩
    have hv34 : (bif Nat.beq z 3 then 4294967313 else v) < 2 ^ 34 := by
      cases hb3 : Nat.beq z 3 with
      | true => rw [q_ift _ _ rfl]; decide
      | false => rw [q_iff _ _ rfl]; have := hvv.lt; omega
    have hc2 : q_c env (q_ad ws) tys ((q_tg 7 h.2 j).1, (q_tg 7 h.2 j).2.1, q_set (q_tg 7 h.2 j).2.2 y (bif Nat.beq z 3 then 4294967313 else v)) (.inr (x, fs.set y vv)) := Or.inl ⟨x, _, h1, rfl, by rw [List.length_set]; exact q2, fun j2 v2 hv2 => by
      show (q_get (q_set (q_tg 7 h.2 j).2.2 y (bif Nat.beq z 3 then 4294967313 else v)) j2 = 4294967313 ∧ ∃ x, v2 = .long x) ∨ q_v env (q_ad ws) (q_get (q_set (q_tg 7 h.2 j).2.2 y (bif Nat.beq z 3 then 4294967313 else v)) j2) v2
      rw [q_get_set _ y _ j2 hv34]
      by_cases e : j2 = y
      · subst e
        rw [if_pos rfl]
        rw [List.getElem?_set_self (by omega)] at hv2
        have := Option.some.inj hv2
        subst this
        cases hb3 : Nat.beq z 3 with
        | true =>
          rw [q_ift _ _ rfl]
          have e3 := q_beq.mp hb3
          subst e3
          have h3 : Nat.beq v 4294967314 = true := h3
          rw [q_beq.mp h3] at hvv
          exact Or.inl ⟨rfl, hvv.lng⟩
        | false => rw [q_iff _ _ rfl]; exact Or.inr hvv
      · rw [if_neg e]
        rw [List.getElem?_set_ne (fun q => e q.symm)] at hv2
        exact q3 j2 v2 hv2⟩
    obtain ⟨w1, w2, w3⟩ := q_wset hw he hc2 rfl
    have kk : ∀ (H1 : Heap) (locs1 : List Loc), va_P D q_cls (ws.set j (a2, .inr (x, fs.set y vv))) H1 → va_D (q_A base) (ws.set j (a2, .inr (x, fs.set y vv))) → va_S (q_A base) s.heap H1 locs1 → W p l e (q_rm d (hf.1 - n0) (q_ss hf - s0)) s m args below meth c H1 locs1 (h.1 - n0) (q_ss h - s0) (MQ below (q_Qc base D env ad0 hf r) args s (hf.1 - n0) (q_ss hf - s0) (q_A base)) (F0 m (pc + 3) ls sv2) := by
      intro H1 locs1 hP1 hD1 hS1
      have := (hg p e s m args below meth c H1 locs1 ls (sv2) (ws.set j (a2, .inr (x, fs.set y vv))) (tys) ad0 n0 s0 C (w1) hP1 hK hD1 hS1 (by rw [w2]; exact hp) (by rw [w2]; exact hL) (by rw [w2]; exact hs2) (hn0) (by rw [w3]; exact hs0))
      rw [w3] at this
      exact this
    rcases hfin with hfin | ⟨hfin, hi1, hi2⟩
    · exact va_put (D := D) (ci := x) (C := rc.1) (T := rc.2.1) (N := rc.2.2) C.1 C.2.1 C.2.2.2.2.2.1 (hcl x rc hrc).1 _ (hcl x rc hrc).2.1 (hcl x rc hrc).2.2 C.2.2.2.2.1 hK hP hD hS _ he hrc y hy (C.2.2.2.2.2.1 _ hlk) (fun _ h9 => h9) hfin hty hval.1 hval.2 (by omega) hd kk
    · exact va_putF (D := D) (ci := x) (C := rc.1) (T := rc.2.1) (N := rc.2.2) C.1 C.2.1 C.2.2.2.2.2.1 (hcl x rc hrc).1 _ (hcl x rc hrc).2.1 (hcl x rc hrc).2.2 C.2.2.2.2.1 hK hP hD hS _ he hrc y hy (C.2.2.2.2.2.1 _ hlk) (fun _ h9 => h9) hfin (C.2.2.2.2.2.2.2.2.1.trans hi1) hi2 hty hval.1 hval.2 (by omega) hd kk
end QI
