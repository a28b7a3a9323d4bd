/-! ===== positions are on the board: what stays, by its places ===== -/
def h_off (kc : List z_C) (t lo hi : Nat) : Bool := kc.all (fun e => not (Nat.beq e.1 t) || (Nat.blt e.2.2 (2147483648 + lo) || Nat.blt (2147483648 + hi) e.2.1))
theorem h_offs {kc : List z_C} {t lo hi : Nat} (h : h_off kc t lo hi = true) : ∀ q, lo ≤ q → q ≤ hi → ¬ z_wr kc t q := fun q h1 h2 hq => by
  obtain ⟨e, e1, e2, e3, e4⟩ := z_kw_iff.mp hq
  have h9 := List.all_eq_true.mp h e e1
  rcases q_ors h9 with h9 | h9
  · rw [q_beq.mpr e2] at h9
    cases h9
  rcases q_ors h9 with h9 | h9
  · have := q_blt.mp h9
    omega
  · have := q_blt.mp h9
    omega
def h_lt (ws : va_W) (j q N : Nat) : Prop := ∃ v : Int32, h_pl ws j q (.int v) ∧ q_qb v < 2147483648 + N
def h_Jk (jm b N : Nat) (ws : va_W) (ts : List Nat) : Prop := ts[jm]? = some 40 ∧ b < 2 ∧ h_pl ws jm 34 (.int (nI b)) ∧ (4 ≤ N ∧ N ≤ 25) ∧ ∃ (jc ac jr ar : Nat) (xc xr : Int32), (h_px ws ts jm 11 49 jc ac ∧ h_pl ws jc b (.int xc)) ∧ (h_px ws ts jm 12 50 jr ar ∧ h_pl ws jr b (.int xr)) ∧ 2147483650 ≤ q_qb xc ∧ q_qb xc ≤ 2147483653 ∧ 2147483650 ≤ q_qb xr ∧ xc * xr = nI N
def h_Jn (jm A U : Nat) (ws : va_W) : Prop := h_pl ws jm 43 (.int (nI A)) ∧ h_pl ws jm 44 (.int (nI U)) ∧ A + U ≤ 40
/-- the bound of a lane: a position, the minute -/
def h_bn (N w : Nat) : Nat := if w < 5 then N else 1000
def h_Ja (jm N : Nat) (ws : va_W) (ts : List Nat) : Prop := ∃ (ja aa : Nat), h_px ws ts jm 41 66 ja aa ∧ ∀ w, (w < 5 ∨ w = 435) → h_lt ws ja w (h_bn N w)
def h_Jw (jm n N : Nat) (ws : va_W) (ts : List Nat) : Prop := ∃ (jw aw : Nat), h_px ws ts jm 42 67 jw aw ∧ ∀ k w, k < n → (w < 5 ∨ w = 435) → h_lt ws jw (438 * k + w) (h_bn N w)
def h_Jx (jm N : Nat) (ws : va_W) (ts : List Nat) : Prop := ∃ (jx ax ji ai : Nat), h_px ws ts jm 66 86 jx ax ∧ h_px ws ts jm 67 87 ji ai ∧ ∀ c, c < 3 → ∃ y : Int32, h_pl ws ji c (.int y) ∧ (y = nI 1 → ∀ w, (w < 5 ∨ w = 435) → h_lt ws jx (438 * c + w) (h_bn N w))
def h_Jh (jm b N : Nat) (ws : va_W) (ts : List Nat) : Prop := ∃ (ju au jh ah : Nat) (xu : Int32), (h_px ws ts jm 16 51 ju au ∧ h_pl ws ju b (.int xu)) ∧ h_px ws ts jm 20 52 jh ah ∧ ∀ w, w < 5 → 2147483648 + w < q_qb xu → h_lt ws jh (5 * b + w) N
def h_Jp (jm : Nat) (ws : va_W) (ts : List Nat) : Prop := ∃ (b N A U : Nat), h_Jk jm b N ws ts ∧ h_Jn jm A U ws ∧ h_Ja jm N ws ts ∧ h_Jw jm (A + U) N ws ts ∧ h_Jx jm N ws ts ∧ h_Jh jm b N ws ts
section HJ
variable {ws ws' : va_W} {ts ts' : List Nat} {kc : List z_C} {jm b N A U n : Nat}
theorem h_lt.fr {j q t : Nat} (hf : z_Fr kc ws ts ws' ts') (ht : ts[j]? = some t) (hk : ¬ z_wr kc t q) (h : h_lt ws j q N) : h_lt ws' j q N := by
  obtain ⟨v, h1, h2⟩ := h
  exact ⟨v, h1.fr hf ht hk, h2⟩
theorem h_Jk.fr (hf : z_Fr kc ws ts ws' ts') (k34 : ¬ z_wr kc 40 34) (k11 : ¬ z_wr kc 40 11) (k12 : ¬ z_wr kc 40 12) (kc9 : ¬ z_wr kc 49 b) (kr9 : ¬ z_wr kc 50 b) (h : h_Jk jm b N ws ts) : h_Jk jm b N ws' ts' := by
  obtain ⟨hm, h1, h2, h3, jc, ac, jr, ar, xc, xr, ⟨c1, c2⟩, ⟨r1, r2⟩, h4⟩ := h
  exact ⟨z_gm hf.1 hm, h1, h2.fr hf hm k34, h3, jc, ac, jr, ar, xc, xr, ⟨c1.fr hf hm k11, c2.fr hf c1.2.2 kc9⟩, ⟨r1.fr hf hm k12, r2.fr hf r1.2.2 kr9⟩, h4⟩
theorem h_Jn.fr (hf : z_Fr kc ws ts ws' ts') (hm : ts[jm]? = some 40) (k43 : ¬ z_wr kc 40 43) (k44 : ¬ z_wr kc 40 44) (h : h_Jn jm A U ws) : h_Jn jm A U ws' := ⟨h.1.fr hf hm k43, h.2.1.fr hf hm k44, h.2.2⟩
theorem h_Ja.fr (hf : z_Fr kc ws ts ws' ts') (hm : ts[jm]? = some 40) (k41 : ¬ z_wr kc 40 41) (kp : ∀ w, (w < 5 ∨ w = 435) → ¬ z_wr kc 66 w) (h : h_Ja jm N ws ts) : h_Ja jm N ws' ts' := by
  obtain ⟨ja, aa, h1, h2⟩ := h
  exact ⟨ja, aa, h1.fr hf hm k41, fun w hw => (h2 w hw).fr hf h1.2.2 (kp w hw)⟩
theorem h_Jw.fr (hf : z_Fr kc ws ts ws' ts') (hm : ts[jm]? = some 40) (k42 : ¬ z_wr kc 40 42) (kp : ∀ q, ¬ z_wr kc 67 q) (h : h_Jw jm n N ws ts) : h_Jw jm n N ws' ts' := by
  obtain ⟨ja, aa, h1, h2⟩ := h
  exact ⟨ja, aa, h1.fr hf hm k42, fun k w hk hw => (h2 k w hk hw).fr hf h1.2.2 (kp _)⟩
theorem h_Jx.fr (hf : z_Fr kc ws ts ws' ts') (hm : ts[jm]? = some 40) (k66 : ¬ z_wr kc 40 66) (k67 : ¬ z_wr kc 40 67) (kp : ∀ q, ¬ z_wr kc 86 q) (ki : ∀ q, ¬ z_wr kc 87 q) (h : h_Jx jm N ws ts) : h_Jx jm N ws' ts' := by
  obtain ⟨jx, ax, ji, ai, h1, h2, h3⟩ := h
  refine ⟨jx, ax, ji, ai, h1.fr hf hm k66, h2.fr hf hm k67, fun c hc => ?_⟩
  obtain ⟨y, y1, y2⟩ := h3 c hc
  exact ⟨y, y1.fr hf h2.2.2 (ki c), fun e w hw => (y2 e w hw).fr hf h1.2.2 (kp _)⟩
theorem h_Jh.fr (hf : z_Fr kc ws ts ws' ts') (hm : ts[jm]? = some 40) (k16 : ¬ z_wr kc 40 16) (k20 : ¬ z_wr kc 40 20) (ku : ¬ z_wr kc 51 b) (kp : ∀ w, w < 5 → ¬ z_wr kc 52 (5 * b + w)) (h : h_Jh jm b N ws ts) : h_Jh jm b N ws' ts' := by
  obtain ⟨ju, au, jh, ah, xu, ⟨h1, h2⟩, h3, h4⟩ := h
  exact ⟨ju, au, jh, ah, xu, ⟨h1.fr hf hm k16, h2.fr hf h1.2.2 ku⟩, h3.fr hf hm k20, fun w hw hu => (h4 w hw hu).fr hf h3.2.2 (kp w hw)⟩
/-- kills that leave all of it alone -/
def h_not (kc : List z_C) (t : Nat) : Bool := kc.all (fun e => not (Nat.beq e.1 t))
theorem h_nots {kc : List z_C} {t : Nat} (h : h_not kc t = true) : ∀ q, ¬ z_wr kc t q := fun q hq => by
  obtain ⟨e, e1, e2, e3, e4⟩ := z_kw_iff.mp hq
  have h9 := List.all_eq_true.mp h e e1
  have h9 : (!Nat.beq e.1 t) = true := h9
  rw [q_beq.mpr e2] at h9
  cases h9
def h_kJp (kc : List z_C) : Bool := h_off kc 40 11 12 && (h_off kc 40 16 16 && (h_off kc 40 20 20 && (h_off kc 40 34 34 && (h_off kc 40 41 44 && (h_off kc 40 66 67 && (h_off kc 49 0 1 && (h_off kc 50 0 1 && (h_off kc 51 0 1 && (h_off kc 52 0 9 && (h_off kc 66 0 4 && (h_off kc 66 435 435 && (h_not kc 67 && (h_not kc 86 && h_not kc 87)))))))))))))
theorem h_Jp.fr (hk : h_kJp kc = true) (hf : z_Fr kc ws ts ws' ts') (h : h_Jp jm ws ts) : h_Jp jm ws' ts' := by
  obtain ⟨a1, hk⟩ := q_ands hk
  obtain ⟨a2, hk⟩ := q_ands hk
  obtain ⟨a3, hk⟩ := q_ands hk
  obtain ⟨a4, hk⟩ := q_ands hk
  obtain ⟨a5, hk⟩ := q_ands hk
  obtain ⟨a6, hk⟩ := q_ands hk
  obtain ⟨a7, hk⟩ := q_ands hk
  obtain ⟨a8, hk⟩ := q_ands hk
  obtain ⟨a9, hk⟩ := q_ands hk
  obtain ⟨b1, hk⟩ := q_ands hk
  obtain ⟨b2, hk⟩ := q_ands hk
  obtain ⟨b2x, hk⟩ := q_ands hk
  obtain ⟨b3, hk⟩ := q_ands hk
  obtain ⟨b4, b5⟩ := q_ands hk
  obtain ⟨b, N, A, U, h1, h2, h3, h4, h5, h6⟩ := h
  have hm := h1.1
  have hb := h1.2.1
  exact ⟨b, N, A, U, h1.fr hf (h_offs a4 34 (by omega) (by omega)) (h_offs a1 11 (by omega) (by omega)) (h_offs a1 12 (by omega) (by omega)) (h_offs a7 b (by omega) (by omega)) (h_offs a8 b (by omega) (by omega)), h2.fr hf hm (h_offs a5 43 (by omega) (by omega)) (h_offs a5 44 (by omega) (by omega)), h3.fr hf hm (h_offs a5 41 (by omega) (by omega)) (fun w hw => by
    rcases hw with hw | hw
    · exact h_offs b2 w (by omega) (by omega)
    · exact h_offs b2x w (by omega) (by omega)), h4.fr hf hm (h_offs a5 42 (by omega) (by omega)) (h_nots b3), h5.fr hf hm (h_offs a6 66 (by omega) (by omega)) (h_offs a6 67 (by omega) (by omega)) (h_nots b4) (h_nots b5), h6.fr hf hm (h_offs a2 16 (by omega) (by omega)) (h_offs a3 20 (by omega) (by omega)) (h_offs a9 b (by omega) (by omega)) (fun w hw => h_offs b1 _ (by omega) (by omega))⟩
end HJ
/-! views -/
section HV
variable {ws : va_W} {ts : List Nat} {tys : List (ClassId × FieldType)} {fs : List Value} {jm am k t n j a : Nat} {cA : ClassId} {f : Nat → Int32}
theorem h_typ (hw : z_W z_tt ws tys ts) (h2 : ws[j]? = some (a, .inl (cA, n, .inl f))) (h3 : ts[j]? = some t) (h1 : (z_tt t).1 = 1) : ∀ k, k < (z_tt t).2.1 → (z_el (z_tt t).2.2.1 (k % (z_tt t).2.2.2.1)).1 ≤ q_qb (f k) ∧ q_qb (f k) ≤ (z_el (z_tt t).2.2.1 (k % (z_tt t).2.2.2.1)).2 := by
  obtain ⟨cA', f', g1, g2⟩ := h_arr hw (h_ad h2) h3 h1
  rw [h2] at g1
  have e : f = f' := by
    injection g1 with g1
    injection g1 with _ g1
    injection g1 with g1
    injection g1 with _ g1
    injection g1 with _ g1
    injection g1
  subst e
  exact g2
theorem h_px.see (hw : z_W z_tt ws tys ts) (h : h_px ws ts jm k t j a) (hm : ws[jm]? = some (am, .inr (9, fs))) (h1 : (z_tt t).1 = 1) : ∃ (cA : ClassId) (f : Nat → Int32), h_row ws ts fs k t (z_tt t).2.1 j a cA f := by
  obtain ⟨p1, p2, p3⟩ := h
  obtain ⟨cA, f, g1, g2⟩ := h_arr hw p2 p3 h1
  refine ⟨cA, f, ?_, g1, p3⟩
  obtain ⟨a2, e2, q1, q2⟩ := p1
  rw [hm] at q1
  cases q1
  exact q2
theorem h_px.see5 (hw : z_W z_tt ws tys ts) (h : h_px ws ts jm k t j a) (hm : ws[jm]? = some (am, .inr (9, fs))) (h1 : (z_tt t).1 = 5) : ∃ (cA : ClassId) (f : Nat → Int32), h_row ws ts fs k t (z_tt t).2.1 j a cA f := by
  obtain ⟨p1, p2, p3⟩ := h
  obtain ⟨e, e1, e2⟩ := hw.cell p2 p3
  obtain ⟨cA, t9, f, rfl, -, -⟩ := e2.bools h1
  refine ⟨cA, f, ?_, e1, p3⟩
  obtain ⟨a2, e3, q1, q2⟩ := p1
  rw [hm] at q1
  cases q1
  exact q2
theorem h_row.px (h : h_row ws ts fs k t n j a cA f) (hm : ws[jm]? = some (am, .inr (9, fs))) : h_px ws ts jm k t j a := ⟨⟨am, _, hm, h.1⟩, h_ad h.2.1, h.2.2⟩
theorem h_row.pl (h : h_row ws ts fs k t n j a cA f) {q : Nat} (hq : q < n) : h_pl ws j q (.int (f q)) := ⟨a, _, h.2.1, h_aat hq⟩
theorem h_row.at (h : h_row ws ts fs k t n j a cA f) {q : Nat} (hq : q < n) {v : Int32} (hp : h_pl ws j q (.int v)) : v = f q := Value.int.inj (hp.inj h.2.1 (h_aat hq))
theorem h_row.lt (h : h_row ws ts fs k t n j a cA f) {q N : Nat} (hq : q < n) (hp : h_lt ws j q N) : q_qb (f q) < 2147483648 + N := by
  obtain ⟨v, v1, v2⟩ := hp
  rw [← h.at hq v1]
  exact v2
theorem h_row.mk (h : h_row ws ts fs k t n j a cA f) {q N : Nat} (hq : q < n) (hp : q_qb (f q) < 2147483648 + N) : h_lt ws j q N := ⟨f q, h.pl hq, hp⟩
theorem h_pl.fld {v : Value} (h : h_pl ws jm k v) (hm : ws[jm]? = some (am, .inr (9, fs))) : fs[k]? = some v := by
  obtain ⟨a2, e3, q1, q2⟩ := h
  rw [hm] at q1
  cases q1
  exact q2
end HV
/-- an int is answered, and P holds -/
def h_pv (P : va_W → List Nat → Prop) : Option Value → va_W → List Nat → Prop := fun v ws ts => (∃ x : Int32, v = some (.int x)) ∧ P ws ts
theorem h_cpv {M : z_M} {bv : List Value} {v : Option Value} {ws : va_W} {ts : List Nat} (h1 : M.2.2.2.2.2.2.1 = true) (h2 : M.2.2.2.2.2.2.2.1.all (fun t => Nat.beq t.1 0) = true) (h : z_CP M bv v ws ts) : ∃ x : Int32, v = some (.int x) := by
  have hp := h.1
  rw [if_pos h1] at hp
  obtain ⟨t, t1, r, rfl, t2⟩ := hp
  have h3 := q_beq.mp (List.all_eq_true.mp h2 t t1)
  obtain ⟨t0, ta, tb⟩ := t
  have h3 : t0 = 0 := h3
  subst h3
  obtain ⟨x, rfl, -⟩ := h_tvi t2
  exact ⟨x, rfl⟩
