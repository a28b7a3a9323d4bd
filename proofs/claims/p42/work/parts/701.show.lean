/-! ===== by hand: showWay ===== -/
/-- how many of the first k are t or more -/
def h_cnt (f : Nat → Int32) (t : Nat) : Nat → Nat
  | 0 => 0
  | k + 1 => h_cnt f t k + (if t ≤ q_qb (f k) then 1 else 0)
theorem h_cnt_le (f : Nat → Int32) (t : Nat) : ∀ k, h_cnt f t k ≤ k
  | 0 => Nat.le_refl _
  | k + 1 => by
    have := h_cnt_le f t k
    show h_cnt f t k + (if t ≤ q_qb (f k) then 1 else 0) ≤ k + 1
    split <;> omega
theorem h_cnt_mono (f : Nat → Int32) {t u : Nat} (h : u ≤ t) : ∀ k, h_cnt f t k ≤ h_cnt f u k
  | 0 => Nat.le_refl _
  | k + 1 => by
    have := h_cnt_mono f h k
    show h_cnt f t k + (if t ≤ q_qb (f k) then 1 else 0) ≤ h_cnt f u k + (if u ≤ q_qb (f k) then 1 else 0)
    split <;> split <;> omega
theorem h_cnt_lt (f : Nat → Int32) {t u j : Nat} (h : u ≤ t) (h1 : u ≤ q_qb (f j)) (h2 : q_qb (f j) < t) : ∀ k, j < k → h_cnt f t k + 1 ≤ h_cnt f u k
  | 0, hj => absurd hj (Nat.not_lt_zero _)
  | k + 1, hj => by
    show h_cnt f t k + (if t ≤ q_qb (f k) then 1 else 0) + 1 ≤ h_cnt f u k + (if u ≤ q_qb (f k) then 1 else 0)
    by_cases e : j = k
    · subst e
      rw [if_neg (by omega), if_pos h1]
      have := h_cnt_mono f h j
      omega
    · have := h_cnt_lt f h h1 h2 k (by omega)
      split <;> split <;> omega
theorem h_tvn {ad ts : List Nat} {lo hi n : Nat} (h : n < 2147483648) (h1 : lo ≤ 2147483648 + n) (h2 : 2147483648 + n ≤ hi) : z_tv ad ts (0, lo, hi) (.int (nI n)) := Or.inl ⟨rfl, _, rfl, by rw [z_qnI h]; exact h1, by rw [z_qnI h]; exact h2⟩
section HW
variable {X : y_X} {n : Nat} {ws : va_W} {ts : List Nat} {jm am b jf af jw aw jl al jh ah N : Nat} {fs : List Value} {fc fr f w fh : Nat → Int32} {cA cW cL cH : ClassId} {to : Int32}
/-- the world with the way's numbers -/
def h_w2 (ws : va_W) (jm am jl al : Nat) (fs : List Value) (cL : ClassId) (q : Nat → Int32) (r : Nat) : va_W := (ws.set jl (al, .inl (cL, 26, .inl q))).set jm (am, .inr (9, fs.set 48 (.int (nI r))))
/-- all that showWay reads -/
def h_sw (X : y_X) (n : Nat) (ws : va_W) (ts : List Nat) (jm am b jf af jw aw jl al jh ah N : Nat) (fs : List Value) (fc fr f w fh : Nat → Int32) (cA cW cL cH : ClassId) (to : Int32) : Prop := y_C X ∧ y_tt X = z_tt ∧ y_i X = 273 ∧ 1 ≤ (y_d X).1 ∧ n ≤ (y_d X).2 ∧ (∀ q, q < 26 → z_wr (y_kw X) 70 q) ∧ z_wr (y_kw X) 40 48 ∧ h_bd ws ts jm am fs b fc fr ∧ fs.length = 68 ∧ (fs[45]? = some (.ref af) ∧ ws[jf]? = some (af, .inl (cA, 25, .inl f)) ∧ ts[jf]? = some 68) ∧ (fs[46]? = some (.ref aw) ∧ ws[jw]? = some (aw, .inl (cW, 25, .inl w)) ∧ ts[jw]? = some 69) ∧ (fs[47]? = some (.ref al) ∧ (∃ q0, ws[jl]? = some (al, .inl (cL, 26, .inl q0))) ∧ ts[jl]? = some 70) ∧ (fs[15]? = some (.ref ah) ∧ ws[jh]? = some (ah, .inl (cH, 2, .inl fh)) ∧ ts[jh]? = some 45) ∧ (∀ k, k < N → 2147483649 ≤ q_qb (w k) ∧ q_qb (w k) ≤ 2147483749) ∧ N ≤ 25 ∧ ¬ fc b = 0 ∧ h_inv w f (h_K (fh b)) (h_S (fc b)) N to ∧ ∀ c d, c < N → d < N → h_ok w f (h_K (fh b)) (h_S (fc b)) c d
theorem h_sw_in (hok : ∀ i, i < q_nM → q_mok i) (hcl : q_clok) (hF : h_sw X n ws ts jm am b jf af jw aw jl al jh ah N fs fc fr f w fh cA cW cL cH to) {fo : Int32} {c r g : Nat} {q : Nat → Int32} (hc : c < N) (hg : g < N) (hgK : h_K (fh b) g = false) (hgS : h_S (fc b) c g = true) (hge : f g + w g = f c) (kk : ∀ d, d < N → f d + w d = f c → Y X n 80 [some (.ref am), some (.int fo), some (.int to), some (.int (nI c)), some (.int (nI d))] [] (h_w2 ws jm am jl al fs cL q r) ts) : ∀ (m d : Nat), g - d = m → d ≤ g → Y X n 22 [some (.ref am), some (.int fo), some (.int to), some (.int (nI c)), some (.int (nI d))] [] (h_w2 ws jm am jl al fs cL q r) ts := by
  obtain ⟨hC, htt, hi, hd1, hn, hk70, hk48, hbd, hfl, ⟨a1, a2, a3⟩, ⟨w1, w2, w3⟩, ⟨l1, ⟨q0, l2⟩, l3⟩, ⟨u1, u2, u3⟩, hwb, hN, hne, hinv, hall⟩ := hF
  have E := y_Ei hok hi (by decide) (cd := q_cd273) rfl
  obtain ⟨b1, b2, b3, b4, ⟨jc, ac, cC, c1, c2, c3⟩, jr, ar, cR, r1, r2, r3⟩ := id hbd
  have hl : jm < (ws.set jl (al, .inl (cL, 26, .inl q))).length := by
    rw [List.length_set]
    exact (List.getElem?_eq_some_iff.mp b1).1
  have o1 : (h_w2 ws jm am jl al fs cL q r)[jm]? = some (am, .inr (9, fs.set 48 (.int (nI r)))) := List.getElem?_set_self hl
  have oth : ∀ {j t : Nat} {x : Nat × va_E}, ws[j]? = some x → ts[j]? = some t → ¬ 70 = t → ¬ 40 = t → (h_w2 ws jm am jl al fs cL q r)[j]? = some x := fun h1 h2 h3 h4 => h_getset (h_getset h1 (h_tne l3 h2 h3)) (h_tne b2 h2 h4)
  have fk : ∀ {k : Nat} {v : Value}, fs[k]? = some v → ¬ 48 = k → (fs.set 48 (.int (nI r)))[k]? = some v := fun h1 h2 => h_getset h1 h2
  have hb2 : h_bd (h_w2 ws jm am jl al fs cL q r) ts jm am (fs.set 48 (.int (nI r))) b fc fr := ⟨o1, b2, fk b3 (by decide), b4, ⟨jc, ac, cC, fk c1 (by decide), oth c2 c3 (by decide) (by decide), c3⟩, jr, ar, cR, fk r1 (by decide), oth r2 r3 (by decide) (by decide), r3⟩
  have ht45 : (y_tt X 45).1 = 1 := by rw [htt]; rfl
  have ht68 : (y_tt X 68).1 = 1 := by rw [htt]; rfl
  have ht69 : (y_tt X 69).1 = 1 := by rw [htt]; rfl
  have hj2 := oth a2 a3 (by decide) (by decide)
  have hw2 := oth w2 w3 (by decide) (by decide)
  have hu2 := oth u2 u3 (by decide) (by decide)
  intro m
  induction m with
  | zero =>
    intro d hm hd
    have e : d = g := by omega
    subst e
    refine y_aln hC (E 15 _ rfl) rfl ?_
    refine y_get hcl hC (E 16 _ rfl) o1 (fk u1 (by decide)) ?_
    refine y_aln hC (E 17 _ rfl) rfl ?_
    refine y_get hcl hC (E 18 _ rfl) o1 (fk b3 (by decide)) ?_
    refine y_ald hC (E 19 _ rfl) hu2 u3 ht45 b4 (by decide) ?_
    refine y_il hC (E 20 _ rfl) rfl ?_
    refine y_stap hok hC (E 21 _ rfl) (by decide) (by decide) (av := [.int (fh b), .int (nI d)]) (rv := []) (by rw [htt]; exact h_m_has hok (fh b) (nI d)) rfl rfl hd1 hn h_cat0 ?_
    have e0 : h_has (fh b) (nI d) = 0 := by
      have := of_decide_eq_false hgK
      have := h_has_lt (fh b) (nI d)
      omega
    rw [e0]
    refine y_if hC (E 22 _ rfl) (fun h => absurd nI_0 h) (fun _ => ?_)
    refine y_aln hC (E 23 _ rfl) rfl ?_
    refine y_iln hC (E 24 _ rfl) rfl ?_
    refine y_il hC (E 25 _ rfl) rfl ?_
    refine y_virp hok hC (E 26 _ rfl) (by decide) (As := [.int (nI c), .int (nI d)]) (rv := []) (by rw [htt]; exact h_m_steps hok hcl hb2 hne (nI c) (nI d)) o1 rfl rfl hd1 hn h_cat0 ?_
    refine y_ic hC (E 27 _ rfl) ?_
    refine y_cmp hC (E 28 _ rfl) (fun h => absurd (of_decide_eq_true hgS) h) (fun _ => ?_)
    refine y_aln hC (E 29 _ rfl) rfl ?_
    refine y_get hcl hC (E 30 _ rfl) o1 (fk a1 (by decide)) ?_
    refine y_il hC (E 31 _ rfl) rfl ?_
    refine y_ald hC (E 32 _ rfl) hj2 a3 ht68 (show d < 25 by omega) (by decide) ?_
    refine y_aln hC (E 33 _ rfl) rfl ?_
    refine y_get hcl hC (E 34 _ rfl) o1 (fk w1 (by decide)) ?_
    refine y_il hC (E 35 _ rfl) rfl ?_
    refine y_ald hC (E 36 _ rfl) hw2 w3 ht69 (show d < 25 by omega) (by decide) ?_
    refine y_add hC (E 37 _ rfl) ?_
    refine y_aln hC (E 38 _ rfl) rfl ?_
    refine y_get hcl hC (E 39 _ rfl) o1 (fk a1 (by decide)) ?_
    refine y_iln hC (E 40 _ rfl) rfl ?_
    refine y_ald hC (E 41 _ rfl) hj2 a3 ht68 (show c < 25 by omega) (by decide) ?_
    refine y_cmp hC (E 42 _ rfl) (fun _ => kk d hg hge) (fun h => absurd hge h)
  | succ m IH =>
    intro d hm hd
    have hdN : d < N := by omega
    have next : Y X n 74 [some (.ref am), some (.int fo), some (.int to), some (.int (nI c)), some (.int (nI d))] [] (h_w2 ws jm am jl al fs cL q r) ts := by
      refine y_ii hC (E 43 _ rfl) rfl ?_
      refine y_go hC (E 44 _ rfl) ?_
      have := IH (d + 1) (by omega) (by omega)
      rw [nI_succ] at this
      exact this
    refine y_aln hC (E 15 _ rfl) rfl ?_
    refine y_get hcl hC (E 16 _ rfl) o1 (fk u1 (by decide)) ?_
    refine y_aln hC (E 17 _ rfl) rfl ?_
    refine y_get hcl hC (E 18 _ rfl) o1 (fk b3 (by decide)) ?_
    refine y_ald hC (E 19 _ rfl) hu2 u3 ht45 b4 (by decide) ?_
    refine y_il hC (E 20 _ rfl) rfl ?_
    refine y_stap hok hC (E 21 _ rfl) (by decide) (by decide) (av := [.int (fh b), .int (nI d)]) (rv := []) (by rw [htt]; exact h_m_has hok (fh b) (nI d)) rfl rfl hd1 hn h_cat0 ?_
    refine y_if hC (E 22 _ rfl) (fun _ => next) (fun _ => ?_)
    refine y_aln hC (E 23 _ rfl) rfl ?_
    refine y_iln hC (E 24 _ rfl) rfl ?_
    refine y_il hC (E 25 _ rfl) rfl ?_
    refine y_virp hok hC (E 26 _ rfl) (by decide) (As := [.int (nI c), .int (nI d)]) (rv := []) (by rw [htt]; exact h_m_steps hok hcl hb2 hne (nI c) (nI d)) o1 rfl rfl hd1 hn h_cat0 ?_
    refine y_ic hC (E 27 _ rfl) ?_
    refine y_cmp hC (E 28 _ rfl) (fun _ => next) (fun _ => ?_)
    refine y_aln hC (E 29 _ rfl) rfl ?_
    refine y_get hcl hC (E 30 _ rfl) o1 (fk a1 (by decide)) ?_
    refine y_il hC (E 31 _ rfl) rfl ?_
    refine y_ald hC (E 32 _ rfl) hj2 a3 ht68 (show d < 25 by omega) (by decide) ?_
    refine y_aln hC (E 33 _ rfl) rfl ?_
    refine y_get hcl hC (E 34 _ rfl) o1 (fk w1 (by decide)) ?_
    refine y_il hC (E 35 _ rfl) rfl ?_
    refine y_ald hC (E 36 _ rfl) hw2 w3 ht69 (show d < 25 by omega) (by decide) ?_
    refine y_add hC (E 37 _ rfl) ?_
    refine y_aln hC (E 38 _ rfl) rfl ?_
    refine y_get hcl hC (E 39 _ rfl) o1 (fk a1 (by decide)) ?_
    refine y_iln hC (E 40 _ rfl) rfl ?_
    refine y_ald hC (E 41 _ rfl) hj2 a3 ht68 (show c < 25 by omega) (by decide) ?_
    refine y_cmp hC (E 42 _ rfl) (fun h => kk d hdN h) (fun _ => next)
/-- the walk along the way -/
theorem h_sw_out (hok : ∀ i, i < q_nM → q_mok i) (hcl : q_clok) (hF : h_sw X n ws ts jm am b jf af jw aw jl al jh ah N fs fc fr f w fh cA cW cL cH to) {fo : Int32} (kk : ∀ (L : List (Option Value)) (q : Nat → Int32) (r : Nat), 1 ≤ r → r ≤ 25 → Y X n 106 L [] (h_w2 ws jm am jl al fs cL q r) ts) : ∀ (M c r : Nat) (q : Nat → Int32) (o4 : Option Value), q_qb (f c) ≤ M → c < N → q_qb (f c) < 2147493648 → 1 ≤ r → r ≤ h_cnt f (q_qb (f c)) 25 → Y X n 14 [some (.ref am), some (.int fo), some (.int to), some (.int (nI c)), o4] [] (h_w2 ws jm am jl al fs cL q r) ts := by
  have hF2 := hF
  obtain ⟨hC, htt, hi, hd1, hn, hk70, hk48, hbd, hfl, ⟨a1, a2, a3⟩, ⟨w1, w2, w3⟩, ⟨l1, ⟨q0, l2⟩, l3⟩, ⟨u1, u2, u3⟩, hwb, hN, hne, hinv, hall⟩ := hF
  have E := y_Ei hok hi (by decide) (cd := q_cd273) rfl
  obtain ⟨b1, b2, b3, b4, -⟩ := id hbd
  have hjj : ¬ jl = jm := h_tne l3 b2 (by decide)
  intro M
  induction M with
  | zero =>
    intro c r q o4 hM hc
    have := hinv.1 c (by omega)
    omega
  | succ M IH =>
    intro c r q o4 hM hc hfc hr1 hr
    have hcnt := h_cnt_le f (q_qb (f c)) 25
    refine y_iln hC (E 10 _ rfl) rfl ?_
    refine y_iln hC (E 11 _ rfl) rfl ?_
    refine y_cmp hC (E 12 _ rfl) (fun _ => kk _ q r hr1 (by omega)) (fun h => ?_)
    have h : ¬ nI c = to := h
    obtain ⟨g1, g2, g3⟩ := hinv.2 c hc
    obtain ⟨hKc, g, hgN, hgK, hgS, hge⟩ := g3 h hfc
    have hge2 := hall c g hc hgN hKc hgK hgS
    have heq : f g + w g = f c := (q_eq_iff _ _).mpr (by omega)
    refine y_ic hC (E 13 _ rfl) ?_
    refine y_is hC (E 14 _ rfl) ?_
    refine h_sw_in hok hcl hF2 (fo := fo) (r := r) (q := q) hc hgN hgK hgS heq (fun d hdN hde => ?_) (g - 0) 0 rfl (Nat.zero_le _)
    have bd := hinv.1 d (by omega)
    have wd := hwb d hdN
    have es := h_qsum bd.1 bd.2 (by omega) wd.2
    rw [hde] at es
    have hc2 := h_cnt_lt f (t := q_qb (f c)) (u := q_qb (f d)) (j := d) (by omega) (Nat.le_refl _) (by omega) 25 (by omega)
    have hcd := h_cnt_le f (q_qb (f d)) 25
    have hl : jm < (ws.set jl (al, .inl (cL, 26, .inl q))).length := by
      rw [List.length_set]
      exact (List.getElem?_eq_some_iff.mp b1).1
    have o1 : (h_w2 ws jm am jl al fs cL q r)[jm]? = some (am, .inr (9, fs.set 48 (.int (nI r)))) := List.getElem?_set_self hl
    have fk : ∀ {k : Nat} {v : Value}, fs[k]? = some v → ¬ 48 = k → (fs.set 48 (.int (nI r)))[k]? = some v := fun h1 h2 => h_getset h1 h2
    have f48 : (fs.set 48 (.int (nI r)))[48]? = some (.int (nI r)) := List.getElem?_set_self (by omega)
    have hl2 : (h_w2 ws jm am jl al fs cL q r)[jl]? = some (al, .inl (cL, 26, .inl q)) := h_getset (List.getElem?_set_self (List.getElem?_eq_some_iff.mp l2).1) (fun e => hjj e.symm)
    refine y_il hC (E 45 _ rfl) rfl ?_
    refine y_isn hC (E 46 _ rfl) ?_
    refine y_aln hC (E 47 _ rfl) rfl ?_
    refine y_get hcl hC (E 48 _ rfl) o1 (fk l1 (by decide)) ?_
    refine y_aln hC (E 49 _ rfl) rfl ?_
    refine y_get hcl hC (E 50 _ rfl) o1 f48 ?_
    refine y_iln hC (E 51 _ rfl) rfl ?_
    refine y_ast hC (E 52 _ rfl) hl2 l3 (by rw [htt]; rfl) (show r < 26 by omega) (by decide) ?_ (hk70 r (by omega)) ?_
    · rw [htt]
      show (z_el [(26, 0, 4294967295)] (r % 26)).1 ≤ _ ∧ _ ≤ (z_el [(26, 0, 4294967295)] (r % 26)).2
      rw [h_el25 r (by decide)]
      exact ⟨Nat.zero_le _, q_qb_hi _⟩
    have ew : (h_w2 ws jm am jl al fs cL q r).set jl (al, .inl (cL, 26, .inl (upd q r (nI d)))) = h_w2 ws jm am jl al fs cL (upd q r (nI d)) r := by
      show ((ws.set jl _).set jm _).set jl _ = (ws.set jl _).set jm _
      rw [List.set_comm _ _ (fun e => hjj e.symm), List.set_set]
    rw [ew]
    have o2 : (h_w2 ws jm am jl al fs cL (upd q r (nI d)) r)[jm]? = some (am, .inr (9, fs.set 48 (.int (nI r)))) := List.getElem?_set_self (by rw [List.length_set]; exact (List.getElem?_eq_some_iff.mp b1).1)
    refine y_aln hC (E 53 _ rfl) rfl ?_
    refine y_dup hC (E 54 _ rfl) rfl ?_
    refine y_get hcl hC (E 55 _ rfl) o2 f48 ?_
    refine y_ic hC (E 56 _ rfl) ?_
    refine y_add hC (E 57 _ rfl) ?_
    rw [nI_add]
    refine y_put hcl hC (E 58 _ rfl) o2 b2 (by rw [htt]; rfl) ?_ (by rw [List.length_set]; omega) hk48 (Or.inl ⟨rfl, _, rfl⟩) ?_
    · rw [htt]
      show z_tv _ ts (0, 2147483648, 2147483674) _
      exact h_tvn (by omega) (by omega) (by omega)
    have ew2 : (h_w2 ws jm am jl al fs cL (upd q r (nI d)) r).set jm (am, .inr (9, (fs.set 48 (.int (nI r))).set 48 (.int (nI (r + 1))))) = h_w2 ws jm am jl al fs cL (upd q r (nI d)) (r + 1) := by
      show ((ws.set jl _).set jm _).set jm _ = (ws.set jl _).set jm _
      rw [List.set_set, List.set_set]
    rw [ew2]
    refine y_go hC (E 59 _ rfl) ?_
    exact IH d (r + 1) (upd q r (nI d)) _ (by omega) hdN (by omega) (by omega) (by omega)
end HW
