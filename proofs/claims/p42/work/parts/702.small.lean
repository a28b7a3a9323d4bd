/-! ===== by hand: isIn, many, isWalker, isCell, isFree, weighAlike, showWay's contract ===== -/
def h_in (v lo hi : Int32) : Nat := if lo ≤ v ∧ v ≤ hi then 1 else 0
theorem h_in_lt (v lo hi : Int32) : h_in v lo hi < 2 := by
  unfold h_in
  split <;> decide
/-- an int row of the model -/
def h_row (ws : va_W) (ts : List Nat) (fs : List Value) (k t n j a : Nat) (cA : ClassId) (f : Nat → Int32) : Prop := fs[k]? = some (.ref a) ∧ ws[j]? = some (a, .inl (cA, n, .inl f)) ∧ ts[j]? = some t
section HS
variable {l : Launch} {base : Nat} {D : va_G} {sa : Nat → Nat} {ws : va_W} {ts : List Nat}
theorem h_m_in (hok : ∀ i, i < q_nM → q_mok i) (v lo hi : Int32) : z_Met l base D sa z_tt [] (0, 0) 12 [.int v, .int lo, .int hi] ws ts (h_pu ws ts (nI (h_in v lo hi))) := by
  refine y_meth (J := fun _ _ => True) (hok 12 (by decide)) (fun v hv => by
    rcases List.mem_cons.mp hv with rfl | hv
    · rfl
    rcases List.mem_cons.mp hv with rfl | hv
    · rfl
    rcases List.mem_singleton.mp hv with rfl
    rfl) (show 3 ≤ 3 by decide) (fun _ _ _ => trivial) ?_
  intro p e s m below meth c X hX hC hQ
  have hi0 : y_i X = 12 := by rw [hX]
  clear hX
  have E := y_Ei hok hi0 (by decide) (cd := q_cd12) rfl
  show Y X 0 0 [some (.int v), some (.int lo), some (.int hi)] [] ws ts
  refine y_iln hC (E 0 _ rfl) rfl ?_
  refine y_iln hC (E 1 _ rfl) rfl ?_
  refine y_cmp hC (E 2 _ rfl) (fun h => ?_) (fun h => ?_)
  · have h : v < lo := h
    refine y_ic hC (E 8 _ rfl) ?_
    exact y_zr hC hQ (E 9 _ rfl) (Nat.zero_le _) (by decide) ⟨rfl, rfl, by rw [h_in, if_neg (fun q => absurd h (Int32.not_lt.mpr q.1))]⟩
  · have h : lo ≤ v := h
    refine y_iln hC (E 3 _ rfl) rfl ?_
    refine y_iln hC (E 4 _ rfl) rfl ?_
    refine y_cmp hC (E 5 _ rfl) (fun g => ?_) (fun g => ?_)
    · have g : hi < v := g
      refine y_ic hC (E 8 _ rfl) ?_
      exact y_zr hC hQ (E 9 _ rfl) (Nat.zero_le _) (by decide) ⟨rfl, rfl, by rw [h_in, if_neg (fun q => absurd g (Int32.not_lt.mpr q.2))]⟩
    · have g : v ≤ hi := g
      refine y_ic hC (E 6 _ rfl) ?_
      refine y_go hC (E 7 _ rfl) ?_
      exact y_zr hC hQ (E 9 _ rfl) (Nat.zero_le _) (by decide) ⟨rfl, rfl, by rw [h_in, if_pos ⟨h, g⟩]⟩
theorem h_m_many (hok : ∀ i, i < q_nM → q_mok i) (hcl : q_clok) {jm am b ju au : Nat} {fs : List Value} {fc fr fu : Nat → Int32} {cU : ClassId} (hb : h_bd ws ts jm am fs b fc fr) (hu : h_row ws ts fs 16 51 2 ju au cU fu) : z_Met l base D sa z_tt [] (0, 0) 11 [.ref am] ws ts (h_pu ws ts (fu b)) := by
  obtain ⟨b1, b2, b3, b4, -⟩ := hb
  obtain ⟨u1, u2, u3⟩ := hu
  refine y_meth (J := fun _ _ => True) (hok 11 (by decide)) (fun v hv => by rcases List.mem_singleton.mp hv with rfl; rfl) (show 1 ≤ 1 by decide) (fun _ _ _ => trivial) ?_
  intro p e s m below meth c X hX hC hQ
  have hi : y_i X = 11 := by rw [hX]
  have ht : y_tt X = z_tt := by rw [hX]
  clear hX
  have E := y_Ei hok hi (by decide) (cd := q_cd11) rfl
  show Y X 0 0 [some (.ref am)] [] ws ts
  refine y_aln hC (E 0 _ rfl) rfl ?_
  refine y_get hcl hC (E 1 _ rfl) b1 u1 ?_
  refine y_aln hC (E 2 _ rfl) rfl ?_
  refine y_get hcl hC (E 3 _ rfl) b1 b3 ?_
  refine y_ald hC (E 4 _ rfl) u2 u3 (by rw [ht]; rfl) b4 (by decide) ?_
  exact y_ir hC hQ (E 5 _ rfl) (Nat.zero_le _) ⟨rfl, rfl, rfl⟩
end HS
section YQ
variable {X : y_X} {n pc ln x y z : Nat} {L : List (Option Value)} {st : List Value} {ws : va_W} {ts : List Nat} {a : Nat} {r : Int32}
/-- calls of pure methods that have a depth -/
theorem y_virq {k0 dd : Nat} {As rv fs : List Value} {j : Nat} (hok : ∀ i, i < q_nM → q_mok i) (hC : y_C X) (E : y_E (y_i X) (pc, ln, .invokevirtual k0, x, y, z)) (hz9 : ¬ z = 99) (hM : z_Met (y_l X) (y_b X) (y_D X) (y_sa X) (y_tt X) [] (dd, 0) x (.ref a :: As) ws ts (h_pu ws ts r)) (he : ws[j]? = some (a, .inr (z, fs))) (hst : st = As.reverse ++ .ref a :: rv) (hAl : As.length + 1 = y) (hd1 : dd + 1 ≤ (y_d X).1) (hn : n ≤ (y_d X).2) (hcs : (rv.map fun v => v.category).sum ≤ 8) (k : Y X n (pc + ln) L (.int r :: rv) ws ts) : Y X n pc L st ws ts :=
  y_vir hok hC E hz9 hM he hst hAl hd1 hn hcs h_nk (fun v ws' ts' _ hp => by
    obtain ⟨rfl, rfl, rfl⟩ := hp
    exact k)
end YQ
theorem h_cat2 {v w : Int32} : (([Value.int v, Value.int w] : List Value).map fun v => v.category).sum ≤ 8 := by
  show 1 + (1 + 0) ≤ 8
  omega
section HS
variable {l : Launch} {base : Nat} {D : va_G} {sa : Nat → Nat} {ws : va_W} {ts : List Nat}
theorem h_m_iswalker (hok : ∀ i, i < q_nM → q_mok i) (hcl : q_clok) {jm am b ju au : Nat} {fs : List Value} {fc fr fu : Nat → Int32} {cU : ClassId} (hb : h_bd ws ts jm am fs b fc fr) (hu : h_row ws ts fs 16 51 2 ju au cU fu) (w : Int32) : z_Met l base D sa z_tt [] (1, 0) 29 [.ref am, .int w] ws ts (h_pu ws ts (nI (h_in w (nI 0) (fu b - nI 1)))) := by
  refine y_meth (J := fun _ _ => True) (hok 29 (by decide)) (fun v hv => by
    rcases List.mem_cons.mp hv with rfl | hv
    · rfl
    rcases List.mem_singleton.mp hv with rfl
    rfl) (show 2 ≤ 2 by decide) (fun _ _ _ => trivial) ?_
  intro p e s m below meth c X hX hC hQ
  have hi : y_i X = 29 := by rw [hX]
  have htt : y_tt X = z_tt := by rw [hX]
  have hd : y_d X = (1, 0) := by rw [hX]
  clear hX
  have hd1 : 1 ≤ (y_d X).1 := by rw [hd]; decide
  have E := y_Ei hok hi (by decide) (cd := q_cd29) rfl
  show Y X 0 0 [some (.ref am), some (.int w)] [] ws ts
  refine y_iln hC (E 0 _ rfl) rfl ?_
  refine y_ic hC (E 1 _ rfl) ?_
  refine y_aln hC (E 2 _ rfl) rfl ?_
  refine y_virp hok hC (E 3 _ rfl) (by decide) (As := []) (rv := [.int (nI 0), .int w]) (by rw [htt]; exact h_m_many hok hcl hb hu) hb.1 rfl rfl hd1 (Nat.zero_le _) h_cat2 ?_
  refine y_ic hC (E 4 _ rfl) ?_
  refine y_sub hC (E 5 _ rfl) ?_
  refine y_stap hok hC (E 6 _ rfl) (by decide) (by decide) (av := [.int w, .int (nI 0), .int (fu b - nI 1)]) (rv := []) (by rw [htt]; exact h_m_in hok w (nI 0) (fu b - nI 1)) rfl rfl hd1 (Nat.zero_le _) h_cat0 ?_
  exact y_zr hC hQ (E 7 _ rfl) (Nat.zero_le _) (h_in_lt _ _ _) ⟨rfl, rfl, rfl⟩
theorem h_m_iscell (hok : ∀ i, i < q_nM → q_mok i) (hcl : q_clok) {jm am b : Nat} {fs : List Value} {fc fr : Nat → Int32} (hb : h_bd ws ts jm am fs b fc fr) (w : Int32) : z_Met l base D sa z_tt [] (1, 0) 14 [.ref am, .int w] ws ts (h_pu ws ts (nI (h_in w (nI 0) (fc b * fr b - nI 1)))) := by
  refine y_meth (J := fun _ _ => True) (hok 14 (by decide)) (fun v hv => by
    rcases List.mem_cons.mp hv with rfl | hv
    · rfl
    rcases List.mem_singleton.mp hv with rfl
    rfl) (show 2 ≤ 2 by decide) (fun _ _ _ => trivial) ?_
  intro p e s m below meth c X hX hC hQ
  have hi : y_i X = 14 := by rw [hX]
  have htt : y_tt X = z_tt := by rw [hX]
  have hd : y_d X = (1, 0) := by rw [hX]
  clear hX
  have hd1 : 1 ≤ (y_d X).1 := by rw [hd]; decide
  have E := y_Ei hok hi (by decide) (cd := q_cd14) rfl
  show Y X 0 0 [some (.ref am), some (.int w)] [] ws ts
  refine y_iln hC (E 0 _ rfl) rfl ?_
  refine y_ic hC (E 1 _ rfl) ?_
  refine y_aln hC (E 2 _ rfl) rfl ?_
  refine y_virp hok hC (E 3 _ rfl) (by decide) (As := []) (rv := [.int (nI 0), .int w]) (by rw [htt]; exact h_m_cells hok hcl hb) hb.1 rfl rfl hd1 (Nat.zero_le _) h_cat2 ?_
  refine y_ic hC (E 4 _ rfl) ?_
  refine y_sub hC (E 5 _ rfl) ?_
  refine y_stap hok hC (E 6 _ rfl) (by decide) (by decide) (av := [.int w, .int (nI 0), .int (fc b * fr b - nI 1)]) (rv := []) (by rw [htt]; exact h_m_in hok w (nI 0) (fc b * fr b - nI 1)) rfl rfl hd1 (Nat.zero_le _) h_cat0 ?_
  exact y_zr hC hQ (E 7 _ rfl) (Nat.zero_le _) (h_in_lt _ _ _) ⟨rfl, rfl, rfl⟩
def h_free (fc fr fh : Nat → Int32) (b : Nat) (w : Int32) : Nat := if h_in w (nI 0) (fc b * fr b - nI 1) = 1 ∧ h_has (fh b) w = 0 then 1 else 0
theorem h_free_lt (fc fr fh : Nat → Int32) (b : Nat) (w : Int32) : h_free fc fr fh b w < 2 := by
  unfold h_free
  split <;> decide
theorem h_nI01 {k : Nat} (hk : k < 2) : (nI k = 0 ∧ k = 0) ∨ (¬ nI k = 0 ∧ k = 1) := by
  rcases Nat.eq_zero_or_pos k with h | h
  · subst h
    exact Or.inl ⟨nI_0, rfl⟩
  · have : k = 1 := by omega
    subst this
    exact Or.inr ⟨by decide, rfl⟩
theorem h_m_isfree (hok : ∀ i, i < q_nM → q_mok i) (hcl : q_clok) {jm am b jh ah : Nat} {fs : List Value} {fc fr fh : Nat → Int32} {cH : ClassId} (hb : h_bd ws ts jm am fs b fc fr) (hh : h_row ws ts fs 15 45 2 jh ah cH fh) (w : Int32) : z_Met l base D sa z_tt [] (2, 0) 56 [.ref am, .int w] ws ts (h_pu ws ts (nI (h_free fc fr fh b w))) := by
  refine y_meth (J := fun _ _ => True) (hok 56 (by decide)) (fun v hv => by
    rcases List.mem_cons.mp hv with rfl | hv
    · rfl
    rcases List.mem_singleton.mp hv with rfl
    rfl) (show 2 ≤ 2 by decide) (fun _ _ _ => trivial) ?_
  intro p e s m below meth c X hX hC hQ
  have hi : y_i X = 56 := by rw [hX]
  have htt : y_tt X = z_tt := by rw [hX]
  have hd : y_d X = (2, 0) := by rw [hX]
  clear hX
  have hd1 : 1 ≤ (y_d X).1 := by rw [hd]; decide
  have hd2 : 1 + 1 ≤ (y_d X).1 := by rw [hd]; decide
  have E := y_Ei hok hi (by decide) (cd := q_cd56) rfl
  have out : ∀ k, k < 2 → k = h_free fc fr fh b w → Y X 0 29 [some (.ref am), some (.int w)] [.int (nI k)] ws ts := fun k hk e => y_zr hC hQ (E 15 _ rfl) (Nat.zero_le _) hk ⟨rfl, rfl, by rw [e]⟩
  show Y X 0 0 [some (.ref am), some (.int w)] [] ws ts
  refine y_aln hC (E 0 _ rfl) rfl ?_
  refine y_iln hC (E 1 _ rfl) rfl ?_
  refine y_virq hok hC (E 2 _ rfl) (by decide) (As := [.int w]) (rv := []) (by rw [htt]; exact h_m_iscell hok hcl hb w) hb.1 rfl rfl hd2 (Nat.zero_le _) h_cat0 ?_
  refine y_if hC (E 3 _ rfl) (fun h => ?_) (fun h => ?_)
  · refine y_ic hC (E 14 _ rfl) ?_
    refine out 0 (by decide) ?_
    rcases h_nI01 (h_in_lt w (nI 0) (fc b * fr b - nI 1)) with ⟨_, g⟩ | ⟨g, _⟩
    · rw [h_free, if_neg (fun q => by omega)]
    · exact absurd h g
  · rcases h_nI01 (h_in_lt w (nI 0) (fc b * fr b - nI 1)) with ⟨g, _⟩ | ⟨_, g1⟩
    · exact absurd g h
    refine y_aln hC (E 4 _ rfl) rfl ?_
    refine y_get hcl hC (E 5 _ rfl) hb.1 hh.1 ?_
    refine y_aln hC (E 6 _ rfl) rfl ?_
    refine y_get hcl hC (E 7 _ rfl) hb.1 hb.2.2.1 ?_
    refine y_ald hC (E 8 _ rfl) hh.2.1 hh.2.2 (by rw [htt]; rfl) hb.2.2.2.1 (by decide) ?_
    refine y_iln hC (E 9 _ rfl) rfl ?_
    refine y_stap hok hC (E 10 _ rfl) (by decide) (by decide) (av := [.int (fh b), .int w]) (rv := []) (by rw [htt]; exact h_m_has hok (fh b) w) rfl rfl hd1 (Nat.zero_le _) h_cat0 ?_
    refine y_if hC (E 11 _ rfl) (fun h2 => ?_) (fun h2 => ?_)
    · refine y_ic hC (E 14 _ rfl) ?_
      refine out 0 (by decide) ?_
      rcases h_nI01 (h_has_lt (fh b) w) with ⟨g, _⟩ | ⟨_, g⟩
      · exact absurd g h2
      · rw [h_free, if_neg (fun q => by omega)]
    · refine y_ic hC (E 12 _ rfl) ?_
      refine y_go hC (E 13 _ rfl) ?_
      refine out 1 (by decide) ?_
      rcases h_nI01 (h_has_lt (fh b) w) with ⟨_, g⟩ | ⟨g, _⟩
      · rw [h_free, if_pos ⟨g1, g⟩]
      · exact absurd h2 g
/-- weighAlike -/
theorem h_m_weigh (hok : ∀ i, i < q_nM → q_mok i) (hcl : q_clok) {jm am jw aw : Nat} {fs : List Value} {w0 : Nat → Int32} {cW : ClassId} (hb : ws[jm]? = some (am, .inr (9, fs))) (hb2 : ts[jm]? = some 40) (hh : h_row ws ts fs 46 69 25 jw aw cW w0) : z_Met l base D sa z_tt [(69, 2147483648, 2147483672)] (0, 0) 127 [.ref am] ws ts (fun v ws' ts' => v = none ∧ ts' = ts ∧ ∃ w, ws' = ws.set jw (aw, .inl (cW, 25, .inl w)) ∧ ∀ k, k < 25 → w k = nI 1) := by
  obtain ⟨u1, u2, u3⟩ := hh
  refine y_meth (J := fun _ _ => True) (hok 127 (by decide)) (fun v hv => by rcases List.mem_singleton.mp hv with rfl; rfl) (show 1 ≤ 2 by decide) (fun _ _ _ => trivial) ?_
  intro p e s m below meth c X hX hC hQ
  have hi : y_i X = 127 := by rw [hX]
  have htt : y_tt X = z_tt := by rw [hX]
  have hkw : y_kw X = [(69, 2147483648, 2147483672)] := by rw [hX]
  clear hX
  have E := y_Ei hok hi (by decide) (cd := q_cd127) rfl
  have hne : ¬ jw = jm := h_tne u3 hb2 (by decide)
  have loop : ∀ (m c : Nat) (w : Nat → Int32), 25 - c = m → c ≤ 25 → (∀ k, k < c → w k = nI 1) → Y X 0 2 [some (.ref am), some (.int (nI c))] [] (ws.set jw (aw, .inl (cW, 25, .inl w))) ts := by
    intro m
    induction m with
    | zero =>
      intro c w hm hc h
      have e : c = 25 := by omega
      subst e
      refine y_iln hC (E 2 _ rfl) rfl ?_
      refine y_bp hC (E 3 _ rfl) ?_
      refine y_cmp hC (E 4 _ rfl) (fun h => ?_) (fun h => ?_)
      · exact y_vr hC hQ (E 12 _ rfl) (Nat.zero_le _) ⟨rfl, rfl, w, rfl, by assumption⟩
      · exact absurd h (nI_nlt (Nat.le_refl _) (by omega))
    | succ m IH =>
      intro c w hm hc h
      have hlt : c < 25 := by omega
      refine y_iln hC (E 2 _ rfl) rfl ?_
      refine y_bp hC (E 3 _ rfl) ?_
      refine y_cmp hC (E 4 _ rfl) (fun g => ?_) (fun _ => ?_)
      · exact absurd g (nI_ge hlt (by omega))
      refine y_aln hC (E 5 _ rfl) rfl ?_
      refine y_get hcl hC (E 6 _ rfl) (h_getset hb hne) u1 ?_
      refine y_iln hC (E 7 _ rfl) rfl ?_
      refine y_ic hC (E 8 _ rfl) ?_
      refine y_ast hC (E 9 _ rfl) (List.getElem?_set_self (List.getElem?_eq_some_iff.mp u2).1) u3 (by rw [htt]; rfl) hlt (by decide) ?_ (by rw [hkw]; exact z_kw_iff.mpr ⟨_, List.mem_singleton.mpr rfl, rfl, by show 2147483648 ≤ _; omega, by show _ ≤ 2147483672; omega⟩) ?_
      · rw [htt]
        show (z_el [(25, 2147483648, 2147483749)] (c % 25)).1 ≤ _ ∧ _ ≤ (z_el [(25, 2147483648, 2147483749)] (c % 25)).2
        rw [h_el25 c (by decide), z_qnI (by decide)]
        decide
      rw [List.set_set]
      refine y_ii hC (E 10 _ rfl) rfl ?_
      refine y_go hC (E 11 _ rfl) ?_
      have := IH (c + 1) (upd w c (nI 1)) (by omega) (by omega) (fun k hk => by
        by_cases ek : k = c
        · subst ek
          rw [pk_us]
        · rw [pk_un ek]
          exact h k (by omega))
      rw [nI_succ] at this
      exact this
  show Y X 0 0 [some (.ref am), none] [] ws ts
  refine y_ic hC (E 0 _ rfl) ?_
  refine y_isn hC (E 1 _ rfl) ?_
  have := loop (25 - 0) 0 w0 rfl (by decide) (fun k hk => absurd hk (Nat.not_lt_zero _))
  have e0 : ws.set jw (aw, .inl (cW, 25, .inl w0)) = ws := by
    refine List.ext_getElem? (fun k => ?_)
    by_cases ek : jw = k
    · subst ek
      rw [List.getElem?_set_self (List.getElem?_eq_some_iff.mp u2).1, u2]
    · rw [List.getElem?_set_ne ek]
  rw [e0] at this
  exact this
def h_kshow : List z_C := [(70, 2147483648, 2147483673), (40, 2147483696, 2147483696)]
theorem h_m_show (hok : ∀ i, i < q_nM → q_mok i) (hcl : q_clok) {jm am b jf af jw aw jl al jh ah N c0 : Nat} {fs : List Value} {fc fr f w fh q0 : Nat → Int32} {cA cW cL cH : ClassId} {to : Int32} (hbd : h_bd ws ts jm am fs b fc fr) (hfl : fs.length = 68) (ha : h_row ws ts fs 45 68 25 jf af cA f) (hw : h_row ws ts fs 46 69 25 jw aw cW w) (hl : h_row ws ts fs 47 70 26 jl al cL q0) (hh : h_row ws ts fs 15 45 2 jh ah cH fh) (hwb : ∀ k, k < N → 2147483649 ≤ q_qb (w k) ∧ q_qb (w k) ≤ 2147483749) (hN : N ≤ 25) (hne : ¬ fc b = 0) (hinv : h_inv w f (h_K (fh b)) (h_S (fc b)) N to) (hall : ∀ c d, c < N → d < N → h_ok w f (h_K (fh b)) (h_S (fc b)) c d) (hc0 : c0 < N) (hf0 : q_qb (f c0) < 2147493648) : z_Met l base D sa z_tt h_kshow (3, 0) 273 [.ref am, .int (nI c0), .int to] ws ts (fun v ws' ts' => v = none ∧ ts' = ts ∧ ∃ q r, 1 ≤ r ∧ r ≤ 25 ∧ ws' = h_w2 ws jm am jl al fs cL q r) := by
  refine y_meth (J := fun _ _ => True) (hok 273 (by decide)) (fun v hv => by
    rcases List.mem_cons.mp hv with rfl | hv
    · rfl
    rcases List.mem_cons.mp hv with rfl | hv
    · rfl
    rcases List.mem_singleton.mp hv with rfl
    rfl) (show 3 ≤ 5 by decide) (fun _ _ _ => trivial) ?_
  intro p e s m below meth c X hX hC hQ
  have hi : y_i X = 273 := by rw [hX]
  have htt : y_tt X = z_tt := by rw [hX]
  have hkw : y_kw X = h_kshow := by rw [hX]
  have hd : y_d X = (3, 0) := by rw [hX]
  clear hX
  have E := y_Ei hok hi (by decide) (cd := q_cd273) rfl
  have k70 : ∀ q, q < 26 → z_wr (y_kw X) 70 q := fun q hq => by rw [hkw]; exact z_kw_iff.mpr ⟨_, List.mem_cons_self, rfl, by show 2147483648 ≤ _; omega, by show _ ≤ 2147483673; omega⟩
  have k48 : z_wr (y_kw X) 40 48 := by rw [hkw]; exact z_kw_iff.mpr ⟨_, List.mem_cons_of_mem _ (List.mem_singleton.mpr rfl), rfl, by decide, by decide⟩
  have hF : h_sw X 0 ws ts jm am b jf af jw aw jl al jh ah N fs fc fr f w fh cA cW cL cH to := ⟨hC, htt, hi, by rw [hd]; decide, Nat.zero_le _, k70, k48, hbd, hfl, ha, hw, ⟨hl.1, ⟨q0, hl.2.1⟩, hl.2.2⟩, hh, hwb, hN, hne, hinv, hall⟩
  obtain ⟨b1, b2, -⟩ := id hbd
  have hjj : ¬ jl = jm := h_tne hl.2.2 b2 (by decide)
  show Y X 0 0 [some (.ref am), some (.int (nI c0)), some (.int to), none, none] [] ws ts
  refine y_iln hC (E 0 _ rfl) rfl ?_
  refine y_isn hC (E 1 _ rfl) ?_
  refine y_aln hC (E 2 _ rfl) rfl ?_
  refine y_get hcl hC (E 3 _ rfl) b1 hl.1 ?_
  refine y_ic hC (E 4 _ rfl) ?_
  refine y_iln hC (E 5 _ rfl) rfl ?_
  refine y_ast hC (E 6 _ rfl) hl.2.1 hl.2.2 (by rw [htt]; rfl) (by decide) (by decide) ?_ (k70 0 (by decide)) ?_
  · rw [htt]
    show (z_el [(26, 0, 4294967295)] (0 % 26)).1 ≤ _ ∧ _ ≤ (z_el [(26, 0, 4294967295)] (0 % 26)).2
    rw [h_el25 0 (by decide)]
    exact ⟨Nat.zero_le _, q_qb_hi _⟩
  refine y_aln hC (E 7 _ rfl) rfl ?_
  refine y_ic hC (E 8 _ rfl) ?_
  refine y_put hcl hC (E 9 _ rfl) (h_getset b1 hjj) b2 (by rw [htt]; rfl) ?_ (by omega) k48 (Or.inl ⟨rfl, _, rfl⟩) ?_
  · rw [htt]
    show z_tv _ ts (0, 2147483648, 2147483674) _
    exact h_tvn (by decide) (by decide) (by decide)
  refine h_sw_out hok hcl hF (fo := nI c0) (fun L q r h1 h2 => ?_) _ c0 1 (upd q0 0 (nI c0)) none (Nat.le_refl _) hc0 hf0 (Nat.le_refl _) ?_
  · exact y_vr hC hQ (E 60 _ rfl) (Nat.zero_le _) ⟨rfl, rfl, q, r, h1, h2, rfl⟩
  · have := h_cnt_lt f (t := q_qb (f c0) + 1) (u := q_qb (f c0)) (j := c0) (by omega) (Nat.le_refl _) (by omega) 25 (by omega)
    omega
end HS
