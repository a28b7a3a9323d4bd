/-! ===== the code of the tide stays whole ===== -/
def h_pl (ws : va_W) (j k : Nat) (v : Value) : Prop := ∃ (a : Nat) (e : va_E), ws[j]? = some (a, e) ∧ z_at e k = some v
section HP
variable {ws ws' : va_W} {ts ts' : List Nat} {kc : List z_C}
theorem h_pl.fr {j k t : Nat} {v : Value} (hf : z_Fr kc ws ts ws' ts') (ht : ts[j]? = some t) (hk : ¬ z_wr kc t k) (h : h_pl ws j k v) : h_pl ws' j k v := by
  obtain ⟨a, e, h1, h2⟩ := h
  obtain ⟨e', g1, g2⟩ := hf.2.2 j a t k e v h1 ht h2 hk
  exact ⟨a, e', g1, g2⟩
theorem h_pl.inj {j k : Nat} {v w : Value} (h : h_pl ws j k v) {a : Nat} {e : va_E} (h1 : ws[j]? = some (a, e)) (h2 : z_at e k = some w) : v = w := by
  obtain ⟨a2, e2, g1, g2⟩ := h
  rw [h1] at g1
  cases g1
  rw [h2] at g2
  exact (Option.some.inj g2).symm
/-- a row, by its places -/
def h_px (ws : va_W) (ts : List Nat) (jm k t j a : Nat) : Prop := h_pl ws jm k (.ref a) ∧ (q_ad ws)[j]? = some a ∧ ts[j]? = some t
theorem h_px.fr {jm k t j a : Nat} (hf : z_Fr kc ws ts ws' ts') (hm : ts[jm]? = some 40) (hk : ¬ z_wr kc 40 k) (h : h_px ws ts jm k t j a) : h_px ws' ts' jm k t j a := ⟨h.1.fr hf hm hk, z_gm hf.2.1 h.2.1, z_gm hf.1 h.2.2⟩
/-- the row that a view shows is that row -/
theorem h_px.row {A : Nat → Prop} (hD : va_D A ws) {jm am k t n j a j2 a2 : Nat} {cA : ClassId} {f : Nat → Int32} {fs : List Value} (h : h_px ws ts jm k t j a) (hm : ws[jm]? = some (am, .inr (9, fs))) (hr : h_row ws ts fs k t n j2 a2 cA f) : j2 = j ∧ a2 = a := by
  have e1 := h.1.inj hm (show z_at (.inr (9, fs)) k = some (.ref a2) from hr.1)
  cases e1
  have h2 := h.2.1
  rw [List.getElem?_map] at h2
  cases h9 : ws[j]? with
  | none => rw [h9] at h2; cases h2
  | some q9 =>
    rw [h9] at h2
    obtain ⟨a9, e9⟩ := q9
    cases h2
    exact ⟨(h_same hD hr.2.1 h9).1, rfl⟩
end HP
/-- the code of the tide of the bank is whole, where there is one -/
def h_Jc (jm : Nat) (ws : va_W) (ts : List Nat) : Prop := ts[jm]? = some 40 ∧ ∃ (b jk ak ja aa jb ab jt at9 : Nat) (fk fa fb ft : Nat → Int32), b < 2 ∧ h_pl ws jm 34 (.int (nI b)) ∧ (h_px ws ts jm 29 61 jk ak ∧ ∀ q, q < 1120 → h_pl ws jk q (.int (fk q))) ∧ (h_px ws ts jm 23 55 ja aa ∧ h_pl ws ja b (.int (fa b))) ∧ (h_px ws ts jm 24 56 jb ab ∧ h_pl ws jb b (.int (fb b))) ∧ (h_px ws ts jm 25 57 jt at9 ∧ h_pl ws jt b (.int (ft b))) ∧ (ft b = nI 1 → ∃ p0 p1 h, fa b = nI p0 ∧ fb b = nI p1 ∧ p0 ≤ p1 ∧ p1 ≤ 1120 ∧ h_hs fk p0 (p1 - p0) = some h ∧ 560 * b ≤ p0 ∧ p1 ≤ 560 * b + 560)
/-- kills that leave it alone -/
def h_kJ1 (e : z_C) : Bool := not (Nat.beq e.1 61) && (not (Nat.beq e.1 55) && (not (Nat.beq e.1 56) && (not (Nat.beq e.1 57) && (not (Nat.beq e.1 40) || (Nat.blt e.2.2 2147483671 || (Nat.blt 2147483673 e.2.1 && (Nat.blt e.2.2 2147483677 || (Nat.blt 2147483677 e.2.1 && (Nat.blt e.2.2 2147483682 || Nat.blt 2147483682 e.2.1)))))))))
theorem h_kJ {kc : List z_C} (h : kc.all h_kJ1 = true) : (∀ q, ¬ z_wr kc 61 q) ∧ (∀ q, ¬ z_wr kc 55 q) ∧ (∀ q, ¬ z_wr kc 56 q) ∧ (∀ q, ¬ z_wr kc 57 q) ∧ ¬ z_wr kc 40 34 ∧ ¬ z_wr kc 40 29 ∧ ¬ z_wr kc 40 23 ∧ ¬ z_wr kc 40 24 ∧ ¬ z_wr kc 40 25 := by
  have key : ∀ t q, z_wr kc t q → ¬ t = 61 ∧ ¬ t = 55 ∧ ¬ t = 56 ∧ ¬ t = 57 ∧ (t = 40 → ¬ q = 34 ∧ ¬ q = 29 ∧ ¬ q = 23 ∧ ¬ q = 24 ∧ ¬ q = 25) := fun t q hq => by
    obtain ⟨e, e1, e2, e3, e4⟩ := z_kw_iff.mp hq
    have h9 := List.all_eq_true.mp h e e1
    subst e2
    obtain ⟨a1, h9⟩ := q_ands h9
    obtain ⟨a2, h9⟩ := q_ands h9
    obtain ⟨a3, h9⟩ := q_ands h9
    obtain ⟨a4, h9⟩ := q_ands h9
    have nt : ∀ {x y : Nat}, (!Nat.beq x y) = true → ¬ x = y := fun hh he => by
      rw [q_beq.mpr he] at hh
      cases hh
    refine ⟨nt a1, nt a2, nt a3, nt a4, fun e40 => ?_⟩
    rcases q_ors h9 with h9 | h9
    · exact absurd e40 (nt h9)
    rcases q_ors h9 with h9 | h9
    · have := q_blt.mp h9
      omega
    obtain ⟨a5, h9⟩ := q_ands h9
    have a5 := q_blt.mp a5
    rcases q_ors h9 with h9 | h9
    · have := q_blt.mp h9
      omega
    obtain ⟨a6, h9⟩ := q_ands h9
    have a6 := q_blt.mp a6
    rcases q_ors h9 with h9 | h9
    · have := q_blt.mp h9
      omega
    · have := q_blt.mp h9
      omega
  exact ⟨fun q hq => (key 61 q hq).1 rfl, fun q hq => (key 55 q hq).2.1 rfl, fun q hq => (key 56 q hq).2.2.1 rfl, fun q hq => (key 57 q hq).2.2.2.1 rfl, fun hq => ((key 40 34 hq).2.2.2.2 rfl).1 rfl, fun hq => ((key 40 29 hq).2.2.2.2 rfl).2.1 rfl, fun hq => ((key 40 23 hq).2.2.2.2 rfl).2.2.1 rfl, fun hq => ((key 40 24 hq).2.2.2.2 rfl).2.2.2.1 rfl, fun hq => ((key 40 25 hq).2.2.2.2 rfl).2.2.2.2 rfl⟩
theorem h_Jc.fr {kc : List z_C} (hk : kc.all h_kJ1 = true) {jm : Nat} {ws ws' : va_W} {ts ts' : List Nat} (h : h_Jc jm ws ts) (hf : z_Fr kc ws ts ws' ts') : h_Jc jm ws' ts' := by
  obtain ⟨k61, k55, k56, k57, k34, k29, k23, k24, k25⟩ := h_kJ hk
  obtain ⟨hm, b, jk, ak, ja, aa, jb, ab, jt, at9, fk, fa, fb, ft, hb, h34, ⟨r1, r2⟩, ⟨r3, r4⟩, ⟨r5, r6⟩, ⟨r7, r8⟩, hc⟩ := h
  exact ⟨z_gm hf.1 hm, b, jk, ak, ja, aa, jb, ab, jt, at9, fk, fa, fb, ft, hb, h34.fr hf hm k34, ⟨r1.fr hf hm k29, fun q hq => (r2 q hq).fr hf r1.2.2 (k61 q)⟩, ⟨r3.fr hf hm k23, r4.fr hf r3.2.2 (k55 b)⟩, ⟨r5.fr hf hm k24, r6.fr hf r5.2.2 (k56 b)⟩, ⟨r7.fr hf hm k25, r8.fr hf r7.2.2 (k57 b)⟩, hc⟩
theorem h_Jc.code {A : Nat → Prop} {jm : Nat} {ws : va_W} {ts : List Nat} {tys : List (ClassId × FieldType)} (h : h_Jc jm ws ts) (hw : z_W z_tt ws tys ts) (hD : va_D A ws) : h_codeJ ws ts := by
  obtain ⟨hm, b, jk, ak, ja, aa, jb, ab, jt, at9, fk, fa, fb, ft, hb, h34, ⟨r1, r2⟩, ⟨r3, r4⟩, ⟨r5, r6⟩, ⟨r7, r8⟩, hc⟩ := h
  intro jm2 am b2 fs fc fr fk2 fa2 fb2 ft2 jk2 ak2 ja2 aa2 jb2 ab2 jt2 at2 cK cA cB cT hbd hk ha hb2 ht hft
  have ej : jm2 = jm := hw.2.2 _ _ hbd.2.1 hm
  subst ej
  have e34 := h34.inj hbd.1 (show z_at (.inr (9, fs)) 34 = some (.int (nI b2)) from hbd.2.2.1)
  have eb : b = b2 := (nI_eq (by omega) (by have := hbd.2.2.2.1; omega)).mp (Value.int.inj e34)
  subst eb
  obtain ⟨rfl, rfl⟩ := r1.row hD hbd.1 hk
  obtain ⟨rfl, rfl⟩ := r3.row hD hbd.1 ha
  obtain ⟨rfl, rfl⟩ := r5.row hD hbd.1 hb2
  obtain ⟨rfl, rfl⟩ := r7.row hD hbd.1 ht
  have ea := Value.int.inj (r4.inj ha.2.1 (h_aat hb))
  have ebb := Value.int.inj (r6.inj hb2.2.1 (h_aat hb))
  have et := Value.int.inj (r8.inj ht.2.1 (h_aat hb))
  obtain ⟨p0, p1, h9, c1, c2, c3, c4, c5, -, -⟩ := hc (et.trans hft)
  refine ⟨p0, p1, h9, ea.symm.trans c1, ebb.symm.trans c2, c3, c4, ?_⟩
  rw [h_hs_eq (f := fk2) (g := fk) (fun k k1 k2 => (Value.int.inj ((r2 k (by omega)).inj hk.2.1 (h_aat (by omega)))).symm)]
  exact c5
