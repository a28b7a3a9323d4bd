/-! ===== contracts: cases are joined ===== -/
section ZJ
variable {l : Launch} {base : Nat} {D : va_G} {sa : Nat → Nat} {tt : Nat → z_T} {J : va_W → List Nat → Prop} {kw : List z_C} {d : Nat × Nat} {x : Nat} {av : List Value} {ws : va_W} {ts : List Nat} {post post' : Option Value → va_W → List Nat → Prop}
theorem z_Met.imp (h : z_Met l base D sa tt kw d x av ws ts post) (hi : ∀ v ws' ts', post v ws' ts' → post' v ws' ts') : z_Met l base D sa tt kw d x av ws ts post' := by
  intro p e a1 a2 a3 s m args below b1 b2 b3 b4
  obtain ⟨n, o, c1, c2, c3, ⟨⟨v, ws9, tys9, ts9, d1, d2, d3, d4, d5, d6, d7⟩, d8⟩, c4⟩ := h p e a1 a2 a3 s m args below b1 b2 b3 b4
  exact ⟨n, o, c1, c2, c3, ⟨⟨v, ws9, tys9, ts9, d1, d2, d3, d4, d5, d6, hi _ _ _ d7⟩, d8⟩, c4⟩
theorem z_ofW (h : ∀ tys, z_W tt ws tys ts → va_D (q_A base) ws → z_Met l base D sa tt kw d x av ws ts post) : z_Met l base D sa tt kw d x av ws ts post := by
  intro p e a1 a2 a3 s m args below b1 b2 b3 b4
  obtain ⟨-, -, -, -, tys, hw, -, -, hD⟩ := id b3
  exact h tys hw hD p e a1 a2 a3 s m args below b1 b2 b3 b4
theorem z_Pf.app {c : List (Nat × Nat × z_C)} {out : List Value} : ∀ {ps : List (Nat × Nat × z_C)} {bv mid : List Value}, z_Pf ws ts ps bv mid → z_Pf ws ts c mid out → z_Pf ws ts (ps ++ c) bv out
  | [], bv, mid, h, hc => by
    have h : mid = bv := h
    subst h
    exact hc
  | q :: ps, bv, mid, h, hc => by
    obtain ⟨a, j, e, r, g1, g2, g3, g4, g5⟩ := h
    exact ⟨a, j, e, r, g1, g2, g3, g4, z_Pf.app g5 hc⟩
theorem z_Pf.pre : ∀ {ps : List (Nat × Nat × z_C)} {bv out : List Value}, z_Pf ws ts ps bv out → bv <+: out ∧ out.length = bv.length + ps.length
  | [], bv, out, h => by
    have h : out = bv := h
    subst h
    exact ⟨List.prefix_rfl, rfl⟩
  | q :: ps, bv, out, h => by
    obtain ⟨a, j, e, r, g1, g2, g3, g4, g5⟩ := h
    obtain ⟨k1, k2⟩ := z_Pf.pre g5
    refine ⟨(List.prefix_append _ _).trans k1, ?_⟩
    rw [k2, List.length_append, List.length_singleton, List.length_cons]
    omega
theorem z_Ta.len {ad : List Nat} : ∀ {ta : List z_C} {av : List Value}, z_Ta ad ts ta av → av.length = ta.length
  | [], [], _ => rfl
  | _ :: _, _ :: _, h => by rw [List.length_cons, List.length_cons, z_Ta.len h.2]
  | [], _ :: _, h => h.elim
  | _ :: _, [], h => h.elim
/-- if every case has its contract, and one of the cases always holds -/
theorem z_join {M : z_M} {Cs : List (List (Nat × Nat × z_C))} (h : ∀ c ∈ Cs, z_Con l base D sa tt J (M.1, M.2.1, M.2.2.1 ++ c, M.2.2.2)) (hq : ∀ q ∈ M.2.2.2.2.2.2.2.2, q.1 < M.2.1.length + M.2.2.1.length) (hc : ∀ (ws : va_W) (tys : List (ClassId × FieldType)) (ts : List Nat) (av bv : List Value), z_W tt ws tys ts → va_D (q_A base) ws → z_Ta (q_ad ws) ts M.2.1 av → z_Pf ws ts M.2.2.1 av bv → J ws ts → ∃ c ∈ Cs, ∃ out, z_Pf ws ts c bv out) : z_Con l base D sa tt J M := by
  intro ws ts av bv hta hpf hJ
  refine z_ofW fun tys hw hD => ?_
  obtain ⟨c, c1, out, c2⟩ := hc ws tys ts av bv hw hD hta hpf hJ
  have h9 := h c c1 ws ts av out hta (hpf.app c2) hJ
  refine z_Met.imp (post := z_CP (M.1, M.2.1, M.2.2.1 ++ c, M.2.2.2) out) h9 (fun v ws' ts' hcp => ⟨hcp.1, fun q hq9 => ?_⟩)
  obtain ⟨a, j, e, r, g1, g2⟩ := hcp.2 q hq9
  refine ⟨a, j, e, r, ?_, g2⟩
  have hl := hq q hq9
  have hl2 := (hpf.pre).2
  rw [hta.len] at hl2
  have hlt : q.1 < bv.length := by omega
  have := z_gm (c2.pre).1 (List.getElem?_eq_getElem hlt)
  rw [g1] at this
  rw [List.getElem?_eq_getElem hlt]
  exact this.symm
/-- a field of a typed object -/
theorem z_fld {tys : List (ClassId × FieldType)} {bv : List Value} {v : Value} {k f tag : Nat} (hw : z_W tt ws tys ts) (hb : bv[k]? = some v) (hv : z_tv (q_ad ws) ts (1, tag, 0) v) (ht : (tt tag).1 = 0) (hf : f < (tt tag).2.2.1.length) : ∃ r, z_tv (q_ad ws) ts (z_nth (tt tag).2.2.1 f) r ∧ ∀ t, z_tv (q_ad ws) ts t r → z_Pf ws ts [(k, f, t)] bv (bv ++ [r]) := by
  rcases hv with ⟨h9, _⟩ | ⟨_, j, a, rfl, h1, h2⟩ | ⟨h9, _⟩ | ⟨h9, _⟩
  · cases h9
  · obtain ⟨e, he, hc⟩ := hw.cell h1 h2
    obtain ⟨fs, rfl, h3, h4⟩ := hc.obj ht
    have h3 : fs.length = (tt tag).2.2.1.length := h3
    have hlt : f < fs.length := by omega
    have hg := List.getElem?_eq_getElem hlt
    exact ⟨fs[f], h4 f _ hg, fun t h5 => ⟨a, j, _, fs[f], hb, he, hg, h5, rfl⟩⟩
  · cases h9
  · cases h9
/-- an int field: a case for each of its values -/
theorem z_fcase {tys : List (ClassId × FieldType)} {bv : List Value} {v : Value} {k f tag lo hi : Nat} (hw : z_W tt ws tys ts) (hb : bv[k]? = some v) (hv : z_tv (q_ad ws) ts (1, tag, 0) v) (ht : (tt tag).1 = 0) (hf : f < (tt tag).2.2.1.length) (hty : z_nth (tt tag).2.2.1 f = (0, lo, hi)) : ∃ (y : Nat) (out : List Value), lo ≤ y ∧ y ≤ hi ∧ z_Pf ws ts [(k, f, (0, y, y))] bv out := by
  obtain ⟨r, r1, r2⟩ := z_fld hw hb hv ht hf
  rw [hty] at r1
  rcases r1 with ⟨_, x, rfl, h1, h2⟩ | ⟨h9, _⟩ | ⟨h9, _⟩ | ⟨h9, _⟩
  · exact ⟨q_qb x, _, h1, h2, r2 _ (Or.inl ⟨rfl, x, rfl, Nat.le_refl _, Nat.le_refl _⟩)⟩
  all_goals cases h9
end ZJ
