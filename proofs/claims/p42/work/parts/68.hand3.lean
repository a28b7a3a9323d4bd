/-! ===== by hand: layFar ===== -/
theorem h_nk {kw : List z_C} : ∀ t q, z_wr [] t q → z_wr kw t q := fun t q h => by
  have h : false = true := h
  cases h
section YP
variable {X : y_X} {n pc ln x y z : Nat} {L : List (Option Value)} {st : List Value} {ws : va_W} {ts : List Nat} {a : Nat} {r : Int32}
theorem y_virp {k0 : Nat} {As rv fs : List Value} {j : Nat} (hok : ∀ i, i < q_nM → q_mok i) (hC : y_C X) (E : y_E (y_i X) (pc, ln, .invokevirtual k0, x, y, z)) (hz9 : ¬ z = 99) (hM : z_Met (y_l X) (y_b X) (y_D X) (y_sa X) (y_tt X) [] (0, 0) x (.ref a :: As) ws ts (h_pu ws ts r)) (he : ws[j]? = some (a, .inr (z, fs))) (hst : st = As.reverse ++ .ref a :: rv) (hAl : As.length + 1 = y) (hd1 : 1 ≤ (y_d X).1) (hn : n ≤ (y_d X).2) (hcs : (rv.map fun v => v.category).sum ≤ 8) (k : Y X n (pc + ln) L (.int r :: rv) ws ts) : Y X n pc L st ws ts :=
  y_vir hok hC E hz9 hM he hst hAl hd1 hn hcs h_nk (fun v ws' ts' _ hp => by
    obtain ⟨rfl, rfl, rfl⟩ := hp
    exact k)
theorem y_stap {k0 : Nat} {av rv : List Value} (hok : ∀ i, i < q_nM → q_mok i) (hC : y_C X) (E : y_E (y_i X) (pc, ln, .invokestatic k0, x, y, z)) (hz9 : ¬ z = 99) (hz7 : ¬ z = 77) (hM : z_Met (y_l X) (y_b X) (y_D X) (y_sa X) (y_tt X) [] (0, 0) x av ws ts (h_pu ws ts r)) (hst : st = av.reverse ++ rv) (hAl : av.length = y) (hd1 : 1 ≤ (y_d X).1) (hn : n ≤ (y_d X).2) (hcs : (rv.map fun v => v.category).sum ≤ 8) (k : Y X n (pc + ln) L (.int r :: rv) ws ts) : Y X n pc L st ws ts :=
  y_sta hok hC E hz9 hz7 hM hst hAl hd1 hn hcs h_nk (fun v ws' ts' _ hp => by
    obtain ⟨rfl, rfl, rfl⟩ := hp
    exact k)
end YP
theorem h_getset {α : Type} {l : List α} {i j : Nat} {x y : α} (h : l[i]? = some x) (hne : ¬ j = i) : (l.set j y)[i]? = some x := by
  rw [List.getElem?_set_ne hne]
  exact h
theorem h_tne {ts : List Nat} {i j a c : Nat} (h1 : ts[i]? = some a) (h2 : ts[j]? = some c) (h : ¬ a = c) : ¬ i = j := fun e => h (by
  subst e
  rw [h1] at h2
  exact Option.some.inj h2)
theorem h_bd.set {ws : va_W} {ts : List Nat} {jm am b j t : Nat} {fs : List Value} {fc fr : Nat → Int32} {e : Nat × va_E} (h : h_bd ws ts jm am fs b fc fr) (ht : ts[j]? = some t) (h1 : ¬ t = 40) (h2 : ¬ t = 49) (h3 : ¬ t = 50) : h_bd (ws.set j e) ts jm am fs b fc fr := by
  obtain ⟨b1, b2, b3, b4, ⟨jc, ac, cA, c1, c2, c3⟩, jr, ar, cR, r1, r2, r3⟩ := h
  exact ⟨h_getset b1 (h_tne ht b2 h1), b2, b3, b4, ⟨jc, ac, cA, c1, h_getset c2 (h_tne ht c3 h2), c3⟩, jr, ar, cR, r1, h_getset r2 (h_tne ht r3 h3), r3⟩
theorem h_el25 {m lo hi : Nat} (q : Nat) (hm : 0 < m) : z_el [(m, lo, hi)] (q % m) = (lo, hi) := by
  show (bif Nat.blt (q % m) m then (lo, hi) else (0, 4294967295)) = (lo, hi)
  exact q_ift _ _ (q_blt.mpr (Nat.mod_lt _ hm))
/-- the sum of the first numbers of a row -/
def h_sum (f : Nat → Int32) : Nat → Nat
  | 0 => 0
  | k + 1 => h_sum f k + (q_qb (f k) - 2147483648)
theorem h_sum_eq {f g : Nat → Int32} : ∀ {k : Nat}, (∀ j, j < k → f j = g j) → h_sum f k = h_sum g k
  | 0, _ => rfl
  | k + 1, h => by
    show h_sum f k + (q_qb (f k) - 2147483648) = h_sum g k + (q_qb (g k) - 2147483648)
    rw [h_sum_eq (fun j hj => h j (Nat.lt_succ_of_lt hj)), h k (Nat.lt_succ_self k)]
theorem h_sum_upd {f : Nat → Int32} {c : Nat} {v : Int32} : ∀ {k : Nat}, c < k → h_sum (upd f c v) k + (q_qb (f c) - 2147483648) = h_sum f k + (q_qb v - 2147483648)
  | 0, h => absurd h (Nat.not_lt_zero _)
  | k + 1, h => by
    show h_sum (upd f c v) k + (q_qb (upd f c v k) - 2147483648) + _ = h_sum f k + (q_qb (f k) - 2147483648) + _
    by_cases e : c = k
    · subst e
      rw [pk_us, h_sum_eq (f := upd f c v) (g := f) (fun j hj => pk_un (by omega))]
      omega
    · have := h_sum_upd (f := f) (v := v) (show c < k by omega)
      rw [pk_un (show ¬ k = c by omega)]
      omega
theorem h_cat1 {v : Int32} : (([Value.int v] : List Value).map fun v => v.category).sum ≤ 8 := by
  show 1 + 0 ≤ 8
  omega
theorem h_cat0 : (([] : List Value).map fun v => v.category).sum ≤ 8 := by
  show 0 ≤ 8
  omega
/-- what layFar leaves: N cells, S: one step, K: closed -/
def h_ok (w f : Nat → Int32) (K : Nat → Bool) (S : Nat → Nat → Bool) (c d : Nat) : Prop := K c = false → K d = false → S c d = true → q_qb (f c) ≤ q_qb (f d + w d)
def h_inv (w f : Nat → Int32) (K : Nat → Bool) (S : Nat → Nat → Bool) (N : Nat) (to : Int32) : Prop := (∀ c, c < 25 → 2147483648 ≤ q_qb (f c) ∧ q_qb (f c) ≤ 2147503648) ∧ ∀ c, c < N → q_qb (f c) ≤ 2147493648 ∧ (nI c = to → f c = nI 0) ∧ (¬ nI c = to → q_qb (f c) < 2147493648 → K c = false ∧ ∃ d, d < N ∧ K d = false ∧ S c d = true ∧ q_qb (f d + w d) ≤ q_qb (f c))
section HL
variable {X : y_X} {n : Nat} {ws : va_W} {ts : List Nat} {jm am b jf af jw aw N : Nat} {fs : List Value} {fc fr w : Nat → Int32} {cA cW : ClassId} {to cl : Int32}
/-- the world with far's numbers -/
def h_wf (ws : va_W) (jf af : Nat) (cA : ClassId) (f : Nat → Int32) : va_W := ws.set jf (af, .inl (cA, 25, .inl f))
/-- all that layFar reads -/
def h_lf (X : y_X) (n : Nat) (ws : va_W) (ts : List Nat) (jm am b jf af jw aw N : Nat) (fs : List Value) (fc fr w : Nat → Int32) (cA cW : ClassId) : Prop := y_C X ∧ y_tt X = z_tt ∧ y_i X = 6 ∧ 1 ≤ (y_d X).1 ∧ n ≤ (y_d X).2 ∧ (∀ q, q < 25 → z_wr (y_kw X) 68 q) ∧ h_bd ws ts jm am fs b fc fr ∧ fs[45]? = some (.ref af) ∧ (∃ f0, ws[jf]? = some (af, .inl (cA, 25, .inl f0))) ∧ ts[jf]? = some 68 ∧ fs[46]? = some (.ref aw) ∧ ws[jw]? = some (aw, .inl (cW, 25, .inl w)) ∧ ts[jw]? = some 69 ∧ (∀ k, k < 25 → 2147483648 ≤ q_qb (w k) ∧ q_qb (w k) ≤ 2147483749) ∧ fc b * fr b = nI N ∧ N ≤ 25 ∧ ¬ fc b = 0
theorem h_lf_in (hok : ∀ i, i < q_nM → q_mok i) (hcl : q_clok) (hF : h_lf X n ws ts jm am b jf af jw aw N fs fc fr w cA cW) {o4 o5 : Option Value} (kk : ∀ f, (∀ k, k < N → f k = if nI k = to then nI 0 else nI 10000) → (∀ k, k < 25 → 2147483648 ≤ q_qb (f k) ∧ q_qb (f k) ≤ 2147503648) → Y X n 34 [some (.ref am), some (.int to), some (.int cl), some (.int (nI N)), o4, o5] [] (h_wf ws jf af cA f) ts) : ∀ (m c : Nat) (f : Nat → Int32), N - c = m → c ≤ N → (∀ k, k < c → f k = if nI k = to then nI 0 else nI 10000) → (∀ k, k < 25 → 2147483648 ≤ q_qb (f k) ∧ q_qb (f k) ≤ 2147503648) → Y X n 2 [some (.ref am), some (.int to), some (.int cl), some (.int (nI c)), o4, o5] [] (h_wf ws jf af cA f) ts := by
  obtain ⟨hC, htt, hi, hd1, hn, hkw, hbd, hfar, ⟨f0, hjf⟩, htf, hwt, hjw, htw, hwb, hNe, hN, hne⟩ := hF
  have E := y_Ei hok hi (by decide) (cd := q_cd6) rfl
  intro m
  induction m with
  | zero =>
    intro c f hm hc h1 h2
    have e : c = N := by omega
    subst e
    have hb2 : h_bd (h_wf ws jf af cA f) ts jm am fs b fc fr := hbd.set htf (by decide) (by decide) (by decide)
    refine y_iln hC (E 2 _ rfl) rfl ?_
    refine y_aln hC (E 3 _ rfl) rfl ?_
    refine y_virp hok hC (E 4 _ rfl) (by decide) (As := []) (rv := [.int (nI c)]) (by rw [htt]; exact h_m_cells hok hcl hb2) hb2.1 rfl rfl hd1 hn h_cat1 ?_
    rw [hNe]
    refine y_cmp hC (E 5 _ rfl) (fun h => ?_) (fun h => ?_)
    · exact kk f h1 h2
    · exact absurd h (nI_nlt (Nat.le_refl _) (by omega))
  | succ m IH =>
    intro c f hm hc h1 h2
    have hlt : c < N := by omega
    have hb2 : h_bd (h_wf ws jf af cA f) ts jm am fs b fc fr := hbd.set htf (by decide) (by decide) (by decide)
    have hj2 : (h_wf ws jf af cA f)[jf]? = some (af, .inl (cA, 25, .inl f)) := List.getElem?_set_self (List.getElem?_eq_some_iff.mp hjf).1
    refine y_iln hC (E 2 _ rfl) rfl ?_
    refine y_aln hC (E 3 _ rfl) rfl ?_
    refine y_virp hok hC (E 4 _ rfl) (by decide) (As := []) (rv := [.int (nI c)]) (by rw [htt]; exact h_m_cells hok hcl hb2) hb2.1 rfl rfl hd1 hn h_cat1 ?_
    rw [hNe]
    refine y_cmp hC (E 5 _ rfl) (fun h => ?_) (fun h => ?_)
    · exact absurd h (nI_ge hlt (by omega))
    have step : ∀ v : Int32, v = (if nI c = to then nI 0 else nI 10000) → Y X n 27 [some (.ref am), some (.int to), some (.int cl), some (.int (nI c)), o4, o5] [.int v, .int (nI c), .ref af] (h_wf ws jf af cA f) ts := by
      intro v hv
      have hvb : 2147483648 ≤ q_qb v ∧ q_qb v ≤ 2147503648 := by
        rw [hv]
        split
        · rw [z_qnI (by omega)]; omega
        · rw [z_qnI (by omega)]; omega
      refine y_ast hC (E 15 _ rfl) hj2 htf (by rw [htt]; rfl) (show c < 25 by omega) (by decide) ?_ (hkw c (by omega)) ?_
      · rw [htt]
        show (z_el [(25, 2147483648, 2147503648)] (c % 25)).1 ≤ _ ∧ _ ≤ (z_el [(25, 2147483648, 2147503648)] (c % 25)).2
        rw [h_el25 c (by omega)]
        exact hvb
      · have ew : (h_wf ws jf af cA f).set jf (af, .inl (cA, 25, .inl (upd f c v))) = h_wf ws jf af cA (upd f c v) := List.set_set _
        rw [ew]
        refine y_ii hC (E 16 _ rfl) rfl ?_
        refine y_go hC (E 17 _ rfl) ?_
        have := IH (c + 1) (upd f c v) (by omega) (by omega) (fun k hk => by
          by_cases ek : k = c
          · subst ek
            rw [pk_us]
            exact hv
          · rw [pk_un ek]
            exact h1 k (by omega)) (fun k hk => by
          by_cases ek : k = c
          · subst ek
            rw [pk_us]
            exact hvb
          · rw [pk_un ek]
            exact h2 k hk)
        rw [nI_succ] at this
        exact this
    refine y_aln hC (E 6 _ rfl) rfl ?_
    refine y_get hcl hC (E 7 _ rfl) hb2.1 hfar ?_
    refine y_iln hC (E 8 _ rfl) rfl ?_
    refine y_iln hC (E 9 _ rfl) rfl ?_
    refine y_iln hC (E 10 _ rfl) rfl ?_
    refine y_cmp hC (E 11 _ rfl) (fun h => ?_) (fun h => ?_)
    · have h : ¬ nI c = to := h
      refine y_sp hC (E 14 _ rfl) ?_
      exact step _ (by rw [if_neg h])
    · have h : nI c = to := h
      refine y_ic hC (E 12 _ rfl) ?_
      refine y_go hC (E 13 _ rfl) ?_
      exact step _ (by rw [if_pos h])
end HL
