/-! ===== what a typed world shows ===== -/
section HV
variable {ws : va_W} {ts : List Nat} {tys : List (ClassId × FieldType)}
theorem h_ad {j a : Nat} {e : va_E} (h : ws[j]? = some (a, e)) : (q_ad ws)[j]? = some a := by
  rw [List.getElem?_map, h]
  rfl
theorem h_obj (hw : z_W z_tt ws tys ts) {j a t : Nat} (h1 : (q_ad ws)[j]? = some a) (h2 : ts[j]? = some t) (h0 : (z_tt t).1 = 0) : ∃ fs, ws[j]? = some (a, .inr ((z_tt t).2.1, fs)) ∧ fs.length = (z_tt t).2.2.1.length ∧ ∀ k v, fs[k]? = some v → z_tv (q_ad ws) ts (z_nth (z_tt t).2.2.1 k) v := by
  obtain ⟨e, he, hc⟩ := hw.cell h1 h2
  obtain ⟨fs, rfl, f1, f2⟩ := hc.obj h0
  exact ⟨fs, he, f1, f2⟩
theorem h_arr (hw : z_W z_tt ws tys ts) {j a t : Nat} (h1 : (q_ad ws)[j]? = some a) (h2 : ts[j]? = some t) (h0 : (z_tt t).1 = 1) : ∃ (cA : ClassId) (f : Nat → Int32), ws[j]? = some (a, .inl (cA, (z_tt t).2.1, .inl f)) ∧ ∀ k, k < (z_tt t).2.1 → (z_el (z_tt t).2.2.1 (k % (z_tt t).2.2.2.1)).1 ≤ q_qb (f k) ∧ q_qb (f k) ≤ (z_el (z_tt t).2.2.1 (k % (z_tt t).2.2.2.1)).2 := by
  obtain ⟨e, he, hc⟩ := hw.cell h1 h2
  obtain ⟨cA, t2, f, rfl, -, f2⟩ := hc.ints h0
  exact ⟨cA, f, he, f2⟩
theorem h_rt {ad : List Nat} {t u : Nat} {v : Value} (h : z_tv ad ts (1, t, u) v) : ∃ (j a : Nat), v = .ref a ∧ ad[j]? = some a ∧ ts[j]? = some t := by
  rcases h with ⟨h, _⟩ | ⟨_, j, a, h⟩ | ⟨h, _⟩ | ⟨h, _⟩
  · cases h
  · exact ⟨j, a, h⟩
  · cases h
  · cases h
/-- an object's field that is a row of ints -/
theorem h_fa (hw : z_W z_tt ws tys ts) {fs : List Value} {T : List z_C} (hl : fs.length = T.length) (hf : ∀ k v, fs[k]? = some v → z_tv (q_ad ws) ts (z_nth T k) v) {k t u : Nat} (hk : k < T.length) (ht : z_nth T k = (1, t, u)) (h0 : (z_tt t).1 = 1) : ∃ (j a : Nat) (cA : ClassId) (f : Nat → Int32), fs[k]? = some (.ref a) ∧ ws[j]? = some (a, .inl (cA, (z_tt t).2.1, .inl f)) ∧ ts[j]? = some t ∧ ∀ q, q < (z_tt t).2.1 → (z_el (z_tt t).2.2.1 (q % (z_tt t).2.2.2.1)).1 ≤ q_qb (f q) ∧ q_qb (f q) ≤ (z_el (z_tt t).2.2.1 (q % (z_tt t).2.2.2.1)).2 := by
  have hk2 : k < fs.length := by omega
  have hv := hf k _ (List.getElem?_eq_getElem hk2)
  rw [ht] at hv
  obtain ⟨j, a, e1, e2, e3⟩ := h_rt hv
  obtain ⟨cA, f, g1, g2⟩ := h_arr hw e2 e3 h0
  exact ⟨j, a, cA, f, by rw [List.getElem?_eq_getElem hk2, e1], g1, e3, g2⟩
/-- an object's field that is an int -/
theorem h_fi {fs : List Value} {T : List z_C} {ad : List Nat} (hl : fs.length = T.length) (hf : ∀ k v, fs[k]? = some v → z_tv ad ts (z_nth T k) v) {k lo hi : Nat} (hk : k < T.length) (ht : z_nth T k = (0, lo, hi)) : ∃ x : Int32, fs[k]? = some (.int x) ∧ lo ≤ q_qb x ∧ q_qb x ≤ hi := by
  have hk2 : k < fs.length := by omega
  have hv := hf k _ (List.getElem?_eq_getElem hk2)
  rw [ht] at hv
  obtain ⟨x, e1, e2⟩ := h_tvi hv
  exact ⟨x, by rw [List.getElem?_eq_getElem hk2, e1], e2⟩
theorem h_qn {x : Int32} {n : Nat} (hn : n < 2147483648) (h : q_qb x = 2147483648 + n) : x = nI n := by
  rw [q_eq_iff, z_qnI hn]
  exact h
/-- same address, same cell -/
theorem h_same {A : Nat → Prop} (hD : va_D A ws) {i j a : Nat} {e f : va_E} (h1 : ws[i]? = some (a, e)) (h2 : ws[j]? = some (a, f)) : i = j ∧ e = f := by
  have := hD.1 i j _ _ h1 h2 rfl
  subst this
  rw [h1] at h2
  cases h2
  exact ⟨rfl, rfl⟩
theorem h_oat {c : Nat} {fs : List Value} {k : Nat} : z_at (.inr (c, fs)) k = fs[k]? := rfl
theorem h_aat {cA : ClassId} {n k : Nat} {f : Nat → Int32} (h : k < n) : z_at (.inl (cA, n, .inl f)) k = some (.int (f k)) := if_pos h
/-- the board out of the facts that a contract wants -/
theorem h_bank {A : Nat → Prop} (hw : z_W z_tt ws tys ts) (hD : va_D A ws) {am jm b na : Nat} {av bv : List Value} (hb : b < 2) (h1 : (q_ad ws)[jm]? = some am) (h2 : ts[jm]? = some 40) (hav : av[0]? = some (.ref am)) (hna : av.length = na) (hp : z_Pf ws ts [(0, 34, (0, 2147483648 + b, 2147483648 + b)), (0, 11, (1, 49, 0)), (na + 1, b, (0, 2147483650, 2147483653))] av bv) : ∃ (fs : List Value) (fc fr : Nat → Int32) (N : Nat), h_bd ws ts jm am fs b fc fr ∧ fs.length = (z_tt 40).2.2.1.length ∧ (∀ k v, fs[k]? = some v → z_tv (q_ad ws) ts (z_nth (z_tt 40).2.2.1 k) v) ∧ fc b * fr b = nI N ∧ N ≤ 25 ∧ ¬ fc b = 0 := by
  obtain ⟨fs, o1, o2, o3⟩ := h_obj hw h1 h2 rfl
  have o1 : ws[jm]? = some (am, .inr (9, fs)) := o1
  obtain ⟨jc, ac, cA, fc, c1, c2, c3, c4⟩ := h_fa hw o2 o3 (k := 11) (t := 49) (u := 0) (by decide) rfl rfl
  obtain ⟨jr, ar, cR, fr, r1, r2, r3, r4⟩ := h_fa hw o2 o3 (k := 12) (t := 50) (u := 0) (by decide) rfl rfl
  obtain ⟨a1, j1, e1, v1, p1, p2, p3, p4, a2, j2, e2, v2, q1, q2, q3, q4, a3, j3, e3, v3, s1, s2, s3, s4, -⟩ := hp
  have p1 : av[0]? = some (.ref a1) := p1
  have hn0 : 0 < av.length := by
    rcases Nat.eq_zero_or_pos av.length with h | h
    · rw [List.length_eq_zero_iff.mp h] at hav
      cases hav
    · exact h
  rw [hav] at p1
  cases p1
  obtain ⟨rfl, rfl⟩ := h_same hD o1 p2
  have q1 : (av ++ [v1])[0]? = some (.ref a2) := q1
  rw [List.getElem?_append_left hn0, hav] at q1
  cases q1
  obtain ⟨rfl, rfl⟩ := h_same hD o1 q2
  have s1 : (av ++ [v1] ++ [v2])[na + 1]? = some (.ref a3) := s1
  rw [List.getElem?_append_right (by rw [List.length_append, hna]; exact Nat.le_refl _), List.length_append, hna] at s1
  have s1 : ([v2] : List Value)[na + 1 - (na + 1)]? = some (.ref a3) := s1
  rw [Nat.sub_self] at s1
  have s1 : v2 = .ref a3 := Option.some.inj s1
  subst s1
  have q3 : fs[11]? = some (.ref a3) := q3
  rw [c1] at q3
  cases q3
  have c2 : ws[jc]? = some (ac, .inl (cA, 2, .inl fc)) := c2
  have r2 : ws[jr]? = some (ar, .inl (cR, 2, .inl fr)) := r2
  obtain ⟨rfl, rfl⟩ := h_same hD c2 s2
  rw [show z_at (.inl (cA, 2, .inl fc)) b = some (.int (fc b)) from h_aat hb] at s3
  cases s3
  have p3 : fs[34]? = some v1 := p3
  obtain ⟨xb, rfl, t1, t2⟩ := h_tvi p4
  have eb : xb = nI b := h_qn (by omega) (by omega)
  subst eb
  obtain ⟨xc, ex, u1, u2⟩ := h_tvi s4
  cases ex
  have r4 := r4 b hb
  have r4 : (z_el [(2, 2147483648, 2147483653)] (b % 2)).1 ≤ q_qb (fr b) ∧ q_qb (fr b) ≤ (z_el [(2, 2147483648, 2147483653)] (b % 2)).2 := r4
  rw [h_el25 b (by decide)] at r4
  have r4 : 2147483648 ≤ q_qb (fr b) ∧ q_qb (fr b) ≤ 2147483653 := r4
  obtain ⟨n1, m1, g1, g2⟩ := z_nat (x := fc b) (by omega)
  obtain ⟨n2, m2, g3, g4⟩ := z_nat (x := fr b) (by omega)
  have hle : n1 * n2 ≤ 5 * 5 := Nat.mul_le_mul (by omega) (by omega)
  refine ⟨fs, fc, fr, n1 * n2, ⟨o1, h2, p3, hb, ⟨jc, ac, cA, c1, c2, c3⟩, jr, ar, cR, r1, r2, r3⟩, o2, o3, ?_, by omega, fun h0 => ?_⟩
  · have := z_qmul g1 g3 (by omega)
    exact h_qn (by omega) this
  · rw [h0, z_qb0] at u1
    omega
end HV
/-! ===== layFar's contract ===== -/
section HM
variable {l : Launch} {base : Nat} {D : va_G} {sa : Nat → Nat} {J : va_W → List Nat → Prop} {ws : va_W} {ts : List Nat}
def h_klay : List z_C := [(68, 2147483648, 2147483672)]
/-- behind layFar: far's numbers -/
def h_plf (ws : va_W) (ts : List Nat) (am b : Nat) (fs : List Value) (fc : Nat → Int32) (N : Nat) (to cl : Int32) : Option Value → va_W → List Nat → Prop := fun v ws' ts' => v = none ∧ ts' = ts ∧ ∃ (jf af : Nat) (cA : ClassId) (f : Nat → Int32) (jw aw : Nat) (cW : ClassId) (w : Nat → Int32), ws' = h_wf ws jf af cA f ∧ fs[45]? = some (.ref af) ∧ (∃ f0, ws[jf]? = some (af, .inl (cA, 25, .inl f0))) ∧ ts[jf]? = some 68 ∧ fs[46]? = some (.ref aw) ∧ ws[jw]? = some (aw, .inl (cW, 25, .inl w)) ∧ ts[jw]? = some 69 ∧ h_inv w f (h_K cl) (h_S (fc b)) N to ∧ ∀ c d, c < N → d < N → h_ok w f (h_K cl) (h_S (fc b)) c d
theorem h_m_lay (hok : ∀ i, i < q_nM → q_mok i) (hcl : q_clok) {am jm b N : Nat} {fs : List Value} {fc fr : Nat → Int32} (hbd : h_bd ws ts jm am fs b fc fr) (hl : fs.length = (z_tt 40).2.2.1.length) (hf : ∀ k v, fs[k]? = some v → z_tv (q_ad ws) ts (z_nth (z_tt 40).2.2.1 k) v) (hNe : fc b * fr b = nI N) (hN : N ≤ 25) (hne : ¬ fc b = 0) (to cl : Int32) : z_Met l base D sa z_tt h_klay (3, 0) 6 [.ref am, .int to, .int cl] ws ts (h_plf ws ts am b fs fc N to cl) := by
  refine y_meth (J := fun _ _ => True) (hok 6 (by decide)) (fun v hv => by
    rcases List.mem_cons.mp hv with rfl | hv
    · rfl
    rcases List.mem_cons.mp hv with rfl | hv
    · rfl
    rcases List.mem_singleton.mp hv with rfl
    rfl) (show 3 ≤ 6 by decide) (fun _ _ _ => trivial) ?_
  intro p e s m below meth c X hX hC hQ
  have hi : y_i X = 6 := by rw [hX]
  have htt : y_tt X = z_tt := by rw [hX]
  have hkw : y_kw X = h_klay := by rw [hX]
  have hd : y_d X = (3, 0) := by rw [hX]
  clear hX
  have E := y_Ei hok hi (by decide) (cd := q_cd6) rfl
  refine y_ty (fun tys hw hD => ?_)
  rw [htt] at hw
  obtain ⟨jf, af, cA, f0, a1, a2, a3, a4⟩ := h_fa hw hl hf (k := 45) (t := 68) (u := 0) (by decide) rfl rfl
  obtain ⟨jw, aw, cW, w, w1, w2, w3, w4⟩ := h_fa hw hl hf (k := 46) (t := 69) (u := 0) (by decide) rfl rfl
  have a2 : ws[jf]? = some (af, .inl (cA, 25, .inl f0)) := a2
  have w2 : ws[jw]? = some (aw, .inl (cW, 25, .inl w)) := w2
  have a4 : ∀ k, k < 25 → 2147483648 ≤ q_qb (f0 k) ∧ q_qb (f0 k) ≤ 2147503648 := fun k hk => by
    have := a4 k hk
    have : (z_el [(25, 2147483648, 2147503648)] (k % 25)).1 ≤ q_qb (f0 k) ∧ q_qb (f0 k) ≤ (z_el [(25, 2147483648, 2147503648)] (k % 25)).2 := this
    rw [h_el25 k (by decide)] at this
    exact this
  have w4 : ∀ k, k < 25 → 2147483648 ≤ q_qb (w k) ∧ q_qb (w k) ≤ 2147483749 := fun k hk => by
    have := w4 k hk
    have : (z_el [(25, 2147483648, 2147483749)] (k % 25)).1 ≤ q_qb (w k) ∧ q_qb (w k) ≤ (z_el [(25, 2147483648, 2147483749)] (k % 25)).2 := this
    rw [h_el25 k (by decide)] at this
    exact this
  have hF : h_lf X 0 ws ts jm am b jf af jw aw N fs fc fr w cA cW := ⟨hC, htt, hi, by rw [hd]; decide, Nat.zero_le _, fun q hq => by rw [hkw]; exact z_kw_iff.mpr ⟨_, List.mem_singleton.mpr rfl, rfl, by show 2147483648 ≤ _; omega, by show _ ≤ 2147483672; omega⟩, hbd, a1, ⟨f0, a2⟩, a3, w1, w2, w3, w4, hNe, hN, hne⟩
  show Y X 0 0 [some (.ref am), some (.int to), some (.int cl), none, none, none] [] ws ts
  refine y_ic hC (E 0 _ rfl) ?_
  refine y_isn hC (E 1 _ rfl) ?_
  have e0 : h_wf ws jf af cA f0 = ws := by
    show ws.set jf (af, .inl (cA, 25, .inl f0)) = ws
    refine List.ext_getElem? (fun k => ?_)
    by_cases ek : jf = k
    · subst ek
      rw [List.getElem?_set_self (List.getElem?_eq_some_iff.mp a2).1, a2]
    · rw [List.getElem?_set_ne ek]
  have := h_lf_in (to := to) (cl := cl) (o4 := none) (o5 := none) hok hcl hF (fun f h1 h2 => by
    refine y_ic hC (E 18 _ rfl) ?_
    refine y_isn hC (E 19 _ rfl) ?_
    refine h_lf_out hok hcl hF (fun g L h3 h4 => ?_) _ f none none (Nat.le_refl _) ⟨h2, fun c hc => ?_⟩
    · exact y_vr hC hQ (E 86 _ rfl) (Nat.zero_le _) ⟨rfl, rfl, jf, af, cA, g, jw, aw, cW, w, rfl, a1, ⟨f0, a2⟩, a3, w1, w2, w3, h3, h4⟩
    · rw [h1 c hc]
      split
      · rename_i hto
        refine ⟨by rw [z_qnI (by omega)]; omega, fun _ => rfl, fun h => absurd hto h⟩
      · rename_i hto
        refine ⟨by rw [z_qnI (by omega)]; omega, fun h => absurd h hto, fun _ h => ?_⟩
        rw [z_qnI (by omega)] at h
        omega) (N - 0) 0 f0 rfl (Nat.zero_le _) (fun k hk => absurd hk (Nat.not_lt_zero _)) a4
  rw [e0] at this
  exact this
end HM
