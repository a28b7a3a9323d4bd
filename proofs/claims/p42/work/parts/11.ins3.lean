/-! ===== instruction by instruction: cells ===== -/
def q_clok : Prop := ∀ (k : Nat) (r : vw_C), q_cls[k]? = some r → (∀ w ∈ u_ws r.1 r.2.1 r.2.2, w ∈ q_w0) ∧ (∀ j, j < r.2.2 → parseFieldDescriptor (r.2.1 j).2.2.1 = some ((q_fty.getD k (fun _ => .int)) j)) ∧ ∀ a, a < r.2.2 → ∀ b, b < r.2.2 → a ≠ b → (r.2.1 a).2.1 ≠ (r.2.1 b).2.1
theorem q_cell {env : Nat → Int32} {h : q_H} {ws : va_W} {tys : List (ClassId × FieldType)} (hw : q_W env h ws tys) {c j : Nat} {v : Value} (hv : q_v env (q_ad ws) c v) (hc : 4294967328 ≤ c) (ej : j = c - 4294967328) (hj : j < h.1) : ∃ a e, v = .ref a ∧ ws[j]? = some (a, e) ∧ q_c env (q_ad ws) tys (q_tg 7 h.2 j) e := by
  obtain ⟨a, ha, rfl⟩ := hv.ref hc
  rw [← ej] at ha
  obtain ⟨a2, e, h1, h2⟩ := hw.2.2 _ hj
  have h3 : (q_ad ws)[j]? = some a2 := by rw [List.getElem?_map, h1]; rfl
  have h4 : a = a2 := Option.some.inj (ha.symm.trans h3)
  subst h4
  exact ⟨a, e, rfl, h1, h2⟩
theorem q_c.obj {env : Nat → Int32} {ad : List Nat} {tys : List (ClassId × FieldType)} {c : q_C} {e : va_E} (h : q_c env ad tys c e) {x : Nat} (hx : c.1 = 2 * x) : ∃ fs : List Value, e = .inr (x, fs) ∧ fs.length = c.2.1 ∧ ∀ (j : Nat) (v : Value), fs[j]? = some v → (q_get c.2.2 j = 4294967313 ∧ ∃ x, v = .long x) ∨ q_v env ad (q_get c.2.2 j) v := by
  rcases h with ⟨ci, fs, h1, h2, h3, h4⟩ | ⟨h0, _⟩ | ⟨h0, _⟩ | ⟨h0, _⟩ | ⟨h0, _⟩ | ⟨h0, _⟩
  · have e1 : ci = x := by omega
    subst e1
    exact ⟨fs, h2, h3, h4⟩
  all_goals omega
theorem q_c.arr {env : Nat → Int32} {ad : List Nat} {tys : List (ClassId × FieldType)} {c : q_C} {e : va_E} (h : q_c env ad tys c e) (hx : c.1 = 1) : q_ca env tys .int c.2.1 c.2.2 e := by
  rcases h with ⟨ci, fs, h1, _⟩ | ⟨h0, h⟩ | ⟨h0, _⟩ | ⟨h0, _⟩ | ⟨h0, _⟩ | ⟨h0, _⟩
  · omega
  · exact h
  all_goals omega
theorem q_c.arb {env : Nat → Int32} {ad : List Nat} {tys : List (ClassId × FieldType)} {c : q_C} {e : va_E} (h : q_c env ad tys c e) (hx : c.1 = 3) : q_ca env tys .byte c.2.1 c.2.2 e := by
  rcases h with ⟨ci, fs, h1, _⟩ | ⟨h0, _⟩ | ⟨h0, h⟩ | ⟨h0, _⟩ | ⟨h0, _⟩ | ⟨h0, _⟩
  · omega
  · omega
  · exact h
  all_goals omega
theorem q_c.arz {env : Nat → Int32} {ad : List Nat} {tys : List (ClassId × FieldType)} {c : q_C} {e : va_E} (h : q_c env ad tys c e) (hx : c.1 = 5) : q_ca env tys .boolean c.2.1 c.2.2 e := by
  rcases h with ⟨ci, fs, h1, _⟩ | ⟨h0, _⟩ | ⟨h0, _⟩ | ⟨h0, h⟩ | ⟨h0, _⟩ | ⟨h0, _⟩
  · omega
  · omega
  · omega
  · exact h
  all_goals omega
theorem q_c.arq {env : Nat → Int32} {ad : List Nat} {tys : List (ClassId × FieldType)} {c : q_C} {e : va_E} (h : q_c env ad tys c e) (hx : c.1 = 9) : q_cq ad tys c.2.1 c.2.2 e := by
  rcases h with ⟨ci, fs, h1, _⟩ | ⟨h0, _⟩ | ⟨h0, _⟩ | ⟨h0, _⟩ | ⟨h0, _⟩ | ⟨h0, h⟩
  · omega
  · omega
  · omega
  · omega
  · omega
  · exact h
theorem q_v.int0 {env : Nat → Int32} {ad ad' : List Nat} {c : Nat} {v : Value} (h : q_v env ad c v) (hc : c ≤ 4294967311) : q_v env ad' c v := by
  rcases h with h | h | h | h | h | h
  · exact Or.inl h
  · exact Or.inr (Or.inl h)
  · exact Or.inr (Or.inr (Or.inl h))
  all_goals omega
theorem q_clamp {j n : Nat} (h : j < n) (hn : n ≤ 100000) : (nI j).toNatClampNeg = j := nI_clamp (by omega)
theorem q_hmo {h hf : q_H} {k kd ln N : Nat} (hm : (q_up h k kd ln N).1 ≤ hf.1 ∧ q_ss (q_up h k kd ln N) ≤ q_ss hf) (e : q_ss (q_up h k kd ln N) = q_ss h) : h.1 ≤ hf.1 ∧ q_ss h ≤ q_ss hf := ⟨hm.1, by rw [← e]; exact hm.2⟩
section QI
variable {l : Launch} {base : Nat} {D : va_G} {env : Nat → Int32} {rg : Nat → Nat × Nat} {mem : q_M} {ih : q_F} {d i pc ln x y z loc : Nat} {tl : List q_I} {st : List Nat} {h hf : q_H} {r : List Nat}
theorem q_s_alen (hrg : q_rgs env rg) (hd : decode (q_b i) pc = .ok (.arraylength, ln)) (hk : q_lnk i pc ln (.arraylength) x y z) (hN : q_HN l base D env ih i pc ln tl) (hr : q_step rg q_code mem ih d i (q_code i) pc (.arraylength) x y z tl loc st h = some (hf, r)) : q_G l base D env d i pc loc st h hf r := by
  have e1 : ln = 1 := hk
  subst e1
  cases st with
  | nil => cases hr
  | cons a rr =>
    have hr : q_at h a (fun _ kd ln _ => bif Nat.beq (Nat.mod kd 2) 1 && Nat.ble ln 100000 then ih d i (q_code i) tl loc (ln :: rr) h else none) = some (hf, r) := hr
    obtain ⟨j, hc1, ej, hj, hh, hr⟩ := q_at_inv hr
    obtain ⟨hq, hr⟩ := q_bifs hr
    obtain ⟨h1, h2⟩ := q_ands hq
    have h1 := q_beq.mp h1
    have h1 : (q_tg 7 h.2 j).1 % 2 = 1 := h1
    have h2 := q_ble.mp h2
    obtain ⟨hm, hg⟩ := hN d loc _ h hf r hr
    refine ⟨hm, fun p e s m args below meth c H locs ls sv ws tys ad0 n0 s0 C hw hP hK hD hS hp hL hs hn0 hs0 => ?_⟩
    obtain ⟨va, sv1, rfl, hva, hs1⟩ := hs.cons
    obtain ⟨a2, e2, rfl, he, hc⟩ := q_cell hw hva hc1 ej hj
    rcases hc with ⟨ci, fs, q1, _⟩ | ⟨q0, cA, t, f, q1, q2, q3, _⟩ | ⟨q0, cA, t, f, q1, q2, q3, _⟩ | ⟨q0, cA, t, f, q1, q2, q3, _⟩ | ⟨q0, cA, t, f, q1, q2, q3⟩ | ⟨q0, cA, t, f, q1, q2, q3, _⟩
    · omega
    all_goals
      subst q1
      exact va_alen C.1 C.2.1 hK hP _ t he q2 rfl hd (hg p e s m args below meth c H locs ls (.int (Int32.ofNat (q_tg 7 h.2 j).2.1) :: sv1) (ws) (tys) ad0 n0 s0 C (hw) hP hK hD hS (hp) (hL) (⟨q_v.exq _ (by omega) rfl, hs1⟩) (hn0) (hs0))
theorem q_s_iaload (hrg : q_rgs env rg) (hd : decode (q_b i) pc = .ok (.iaload, ln)) (hk : q_lnk i pc ln (.iaload) x y z) (hN : q_HN l base D env ih i pc ln tl) (hr : q_step rg q_code mem ih d i (q_code i) pc (.iaload) x y z tl loc st h = some (hf, r)) : q_G l base D env d i pc loc st h hf r := by
  have e1 : ln = 1 := hk
  subst e1
  match st, hr with
  | [], hr => cases hr
  | [_], hr => cases hr
  | b :: a :: rr, hr =>
    have hr : q_at h a (fun _ kd ln N => bif Nat.beq kd 1 && Nat.blt b ln then q_fr (q_get N b) (fun v => ih d i (q_code i) tl loc (v :: rr) h) else none) = some (hf, r) := hr
    obtain ⟨j, hc1, ej, hj, hh, hr⟩ := q_at_inv hr
    obtain ⟨hq, hr⟩ := q_bifs hr
    rw [q_fr_eq] at hr
    obtain ⟨h1, h2⟩ := q_ands hq
    have h2 := q_blt.mp h2
    obtain ⟨hm, hg⟩ := hN d loc _ h hf r hr
    refine ⟨hm, fun p e s m args below meth c H locs ls sv ws tys ad0 n0 s0 C hw hP hK hD hS hp hL hs hn0 hs0 => ?_⟩
    obtain ⟨vb, sv1, rfl, hvb, hs1⟩ := hs.cons
    obtain ⟨va, sv2, rfl, hva, hs2⟩ := hs1.cons
    obtain ⟨a2, e2, rfl, he, hc⟩ := q_cell hw hva hc1 ej hj
    obtain ⟨cA, t, f, rfl, q2, q3, q4⟩ := hc.arr (q_beq.mp h1)
    obtain ⟨xb, rfl, xb1, -⟩ := hvb.int hrg (by omega)
    have ex := xb1 (by omega)
    subst ex
    refine va_iald C.1 C.2.1 hK hP _ t he q2 (vp_in_nI h2 (by omega)) hd (hg p e s m args below meth c H locs ls (.int (f (nI b).toNatClampNeg) :: sv2) (ws) (tys) ad0 n0 s0 C (hw) hP hK hD hS (hp) (hL) (⟨?_, hs2⟩) (hn0) (hs0))
    rw [q_clamp h2 q3]
    exact (q4 b h2).2.int0 (q4 b h2).1
theorem q_s_baload (hrg : q_rgs env rg) (hd : decode (q_b i) pc = .ok (.baload, ln)) (hk : q_lnk i pc ln (.baload) x y z) (hN : q_HN l base D env ih i pc ln tl) (hr : q_step rg q_code mem ih d i (q_code i) pc (.baload) x y z tl loc st h = some (hf, r)) : q_G l base D env d i pc loc st h hf r := by
  have e1 : ln = 1 := hk
  subst e1
  match st, hr with
  | [], hr => cases hr
  | [_], hr => cases hr
  | b :: a :: rr, hr =>
    have hr : q_at h a (fun _ kd ln N => bif (Nat.beq kd 3 || Nat.beq kd 5) && Nat.blt b ln then q_fr (q_get N b) (fun v => ih d i (q_code i) tl loc (v :: rr) h) else none) = some (hf, r) := hr
    obtain ⟨j, hc1, ej, hj, hh, hr⟩ := q_at_inv hr
    obtain ⟨hq, hr⟩ := q_bifs hr
    rw [q_fr_eq] at hr
    obtain ⟨h1, h2⟩ := q_ands hq
    have h2 := q_blt.mp h2
    obtain ⟨hm, hg⟩ := hN d loc _ h hf r hr
    refine ⟨hm, fun p e s m args below meth c H locs ls sv ws tys ad0 n0 s0 C hw hP hK hD hS hp hL hs hn0 hs0 => ?_⟩
    obtain ⟨vb, sv1, rfl, hvb, hs1⟩ := hs.cons
    obtain ⟨va, sv2, rfl, hva, hs2⟩ := hs1.cons
    obtain ⟨a2, e2, rfl, he, hc⟩ := q_cell hw hva hc1 ej hj
    rcases q_ors h1 with h1 | h1
    · obtain ⟨cA, t, f, rfl, q2, q3, q4⟩ := hc.arb (q_beq.mp h1)
      obtain ⟨xb, rfl, xb1, -⟩ := hvb.int hrg (by omega)
      have ex := xb1 (by omega)
      subst ex
      refine va_bald C.1 C.2.1 hK hP _ t he q2 (vp_in_nI h2 (by omega)) hd (hg p e s m args below meth c H locs ls (.int (f (nI b).toNatClampNeg) :: sv2) (ws) (tys) ad0 n0 s0 C (hw) hP hK hD hS (hp) (hL) (⟨?_, hs2⟩) (hn0) (hs0))
      rw [q_clamp h2 q3]
      exact (q4 b h2).2.int0 (q4 b h2).1
    · obtain ⟨cA, t, f, rfl, q2, q3, q4⟩ := hc.arz (q_beq.mp h1)
      obtain ⟨xb, rfl, xb1, -⟩ := hvb.int hrg (by omega)
      have ex := xb1 (by omega)
      subst ex
      refine va_zald C.1 C.2.1 hK hP _ t he q2 (vp_in_nI h2 (by omega)) hd (hg p e s m args below meth c H locs ls (.int (f (nI b).toNatClampNeg) :: sv2) (ws) (tys) ad0 n0 s0 C (hw) hP hK hD hS (hp) (hL) (⟨?_, hs2⟩) (hn0) (hs0))
      rw [q_clamp h2 q3]
      exact (q4 b h2).2.int0 (q4 b h2).1
theorem q_s_aaload (hrg : q_rgs env rg) (hd : decode (q_b i) pc = .ok (.aaload, ln)) (hk : q_lnk i pc ln (.aaload) x y z) (hN : q_HN l base D env ih i pc ln tl) (hr : q_step rg q_code mem ih d i (q_code i) pc (.aaload) x y z tl loc st h = some (hf, r)) : q_G l base D env d i pc loc st h hf r := by
  have e1 : ln = 1 := hk
  subst e1
  match st, hr with
  | [], hr => cases hr
  | [_], hr => cases hr
  | b :: a :: rr, hr =>
    have hr : q_at h a (fun _ kd ln N => bif Nat.beq kd 9 && Nat.blt b ln then q_fr (q_get N b) (fun v => ih d i (q_code i) tl loc ((bif Nat.beq v 0 then 4294967312 else v) :: rr) h) else none) = some (hf, r) := hr
    obtain ⟨j, hc1, ej, hj, hh, hr⟩ := q_at_inv hr
    obtain ⟨hq, hr⟩ := q_bifs hr
    rw [q_fr_eq] at hr
    obtain ⟨h1, h2⟩ := q_ands hq
    have h1 := q_beq.mp h1
    have h2 := q_blt.mp h2
    obtain ⟨hm, hg⟩ := hN d loc _ h hf r hr
    refine ⟨hm, fun p e s m args below meth c H locs ls sv ws tys ad0 n0 s0 C hw hP hK hD hS hp hL hs hn0 hs0 => ?_⟩
    obtain ⟨vb, sv1, rfl, hvb, hs1⟩ := hs.cons
    obtain ⟨va, sv2, rfl, hva, hs2⟩ := hs1.cons
    obtain ⟨a2, e2, rfl, he, hc⟩ := q_cell hw hva hc1 ej hj
    obtain ⟨cA, t, f, rfl, q2, q3, q4⟩ := hc.arq h1
    obtain ⟨xb, rfl, xb1, -⟩ := hvb.int hrg (by omega)
    have ex := xb1 (by omega)
    subst ex
    refine va_aldq C.1 C.2.1 hK hP _ t he q2 (vp_in_nI h2 (by omega)) hd (hg p e s m args below meth c H locs ls (va_rf (f (nI b).toNatClampNeg) :: sv2) (ws) (tys) ad0 n0 s0 C (hw) hP hK hD hS (hp) (hL) (⟨?_, hs2⟩) (hn0) (hs0))
    rw [q_clamp h2 q3]
    rcases q4 b h2 with ⟨g1, g2⟩ | ⟨g1, g3, a3, g4, g2⟩
    · rw [g1, g2, q_ift _ _ (q_beq.mpr rfl)]
      exact Or.inr (Or.inr (Or.inr (Or.inl ⟨rfl, rfl⟩)))
    · rw [g2, q_iff _ _ (q_bneq.mpr (by omega))]
      exact Or.inr (Or.inr (Or.inr (Or.inr (Or.inr ⟨g1, g3, a3, g4, rfl⟩))))
theorem q_s_get {n : Nat} (hrg : q_rgs env rg) (hd : decode (q_b i) pc = .ok (.getfield n, ln)) (hcl : q_clok) (hk : q_lnk i pc ln (.getfield n) x y z) (hN : q_HN l base D env ih i pc ln tl) (hr : q_step rg q_code mem ih d i (q_code i) pc (.getfield n) x y z tl loc st h = some (hf, r)) : q_G l base D env d i pc loc st h hf r := by
  obtain ⟨e1, rc, hrc, hy, hlk⟩ := hk
  subst e1
  cases st with
  | nil => cases hr
  | cons a rr =>
    have hr : q_at h a (fun _ kd ln N => bif Nat.beq kd (Nat.mul 2 x) && Nat.blt y ln then q_fr (q_get N y) (fun v => bif Nat.beq v 4294967313 then none else ih d i (q_code i) tl loc (v :: rr) h) else none) = some (hf, r) := hr
    obtain ⟨j, hc1, ej, hj, hh, hr⟩ := q_at_inv hr
    obtain ⟨hq, hr⟩ := q_bifs hr
    rw [q_fr_eq] at hr
    obtain ⟨hz, hr⟩ := q_bifn hr
    obtain ⟨h1, h2⟩ := q_ands hq
    have h1 : (q_tg 7 h.2 j).1 = 2 * x := q_beq.mp h1
    have h2 := q_blt.mp h2
    obtain ⟨hm, hg⟩ := hN d loc _ h hf r hr
    refine ⟨hm, fun p e s m args below meth c H locs ls sv ws tys ad0 n0 s0 C hw hP hK hD hS hp hL hs hn0 hs0 => ?_⟩
    obtain ⟨va, sv1, rfl, hva, hs1⟩ := hs.cons
    obtain ⟨a2, e2, rfl, he, hc⟩ := q_cell hw hva hc1 ej hj
    obtain ⟨fs, rfl, q2, q3⟩ := hc.obj h1
    obtain ⟨v, hv⟩ : ∃ v, fs[y]? = some v := ⟨_, List.getElem?_eq_getElem (by omega)⟩
    have hv2 : q_v env (q_ad ws) (q_get (q_tg 7 h.2 j).2.2 y) v := by
      rcases q3 y v hv with g | g
      · exact absurd g.1 (q_bneq.mp hz)
      · exact g
    exact va_get (D := D) (ci := x) (C := rc.1) (T := rc.2.1) (N := rc.2.2) C.1 C.2.1 C.2.2.2.2.2.1 (hcl x rc hrc).1 C.2.2.2.2.1 hK hP _ he hrc y hy (C.2.2.2.2.2.1 _ hlk) (fun _ h9 => h9) hv hd (hg p e s m args below meth c H locs ls (v :: sv1) (ws) (tys) ad0 n0 s0 C (hw) hP hK hD hS (hp) (hL) (⟨hv2, hs1⟩) (hn0) (hs0))
end QI
