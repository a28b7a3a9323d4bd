/-! ===== loops: come to for the first time, and again ===== -/
theorem z_Ds.any {sa : Nat → Nat} {tt : Nat → z_T} {ad ad' ts ts' : List Nat} {vs vs' : List Value} {D : List z_B} (h : z_Ds sa tt ad ts vs D) (hv : vs <+: vs') : z_Ds sa tt ad' ts' vs' D := fun d hd => by
  obtain ⟨x, y, k, h1, h2, h3, h4⟩ := h d hd
  obtain ⟨a, b, g1, g2, g3⟩ := h2.int h3
  exact ⟨x, y, k, z_gm hv h1, Or.inl ⟨h3, a, b, z_gm hv g1, g2, g3⟩, h3, h4⟩
theorem z_pT_s {ad ts : List Nat} : ∀ {tp : List z_C} {u : List Value} {V : z_V} {vs : List Value}, z_E V vs → u.length = tp.length → (∀ (q : Nat) (t : z_C), tp[q]? = some t → ∃ v, u[q]? = some v ∧ z_tv ad ts t v ∧ (t.1 = 0 ∨ t.1 = 3) ∧ t.2.2 ≤ 4294967295) → z_E (z_pT tp V) (vs ++ u) ∧ (z_pT tp V).2.2.2 = V.2.2.2
  | [], [], V, vs, hE, _, _ => ⟨by rw [List.append_nil]; exact hE, rfl⟩
  | [], _ :: _, _, _, _, h, _ => by cases h
  | _ :: _, [], _, _, _, h, _ => by cases h
  | t :: tp, v :: u, V, vs, hE, hl, ht => by
    obtain ⟨v9, v1, v2, v3, v4⟩ := ht 0 t rfl
    cases v1
    have hen : z_en (bif Nat.beq t.1 0 then t.2.1 else 0) (bif Nat.beq t.1 0 then t.2.2 else 0) v ∧ (bif Nat.beq t.1 0 then t.2.1 else 0) < 2 ^ 34 ∧ (bif Nat.beq t.1 0 then t.2.2 else 0) < 2 ^ 34 := by
      rcases v2 with ⟨h0, x, rfl, y1, y2⟩ | ⟨h9, _⟩ | ⟨h9, _⟩ | ⟨h9, x, rfl⟩
      · rw [q_ift _ _ (q_beq.mpr h0), q_ift _ _ (q_beq.mpr h0)]
        exact ⟨⟨y1, y2⟩, by omega, by omega⟩
      · omega
      · omega
      · rw [q_iff _ _ (q_bneq.mpr (by omega)), q_iff _ _ (q_bneq.mpr (by omega))]
        exact ⟨Or.inl rfl, by decide, by decide⟩
    have hE1 := hE.push hen.2.1 hen.2.2 hen.1
    obtain ⟨k1, k2⟩ := z_pT_s hE1 (show u.length = tp.length from Nat.succ.inj hl) (fun q t9 hq => ht (q + 1) t9 hq)
    refine ⟨?_, k2⟩
    rw [List.append_assoc] at k1
    exact k1
section ZL
variable {l : Launch} {base : Nat} {D : va_G} {sa : Nat → Nat} {g : z_G} {J : va_W → List Nat → Prop} {ih : z_F} {d : Nat × Nat} {i pc : Nat} {V : z_V} {L : List z_C} {cx : List z_X} {os : List z_O}
/-- the loop is come to again -/
theorem z_bk {X : z_X} (hX : X ∈ cx) (hX1 : X.1 = pc) (hmt : z_mt X V L (z_th X V L) = true) (hms : z_ms X V (z_th X V L) = true) : z_Ok l base D sa g J d i pc V L [] cx os := by
  intro p e s m args below meth c Q w0 t0 vs0 H locs ls sv ws tys ts vs C hp hv hL hs hx hf
  have h9 := hs.nil
  subst h9
  obtain ⟨u, vs', u1, ⟨-, -, u2⟩, u3, u4, u5, u6, u7, -⟩ := z_mt_s hmt hv hL
  obtain ⟨k1, ⟨k2, k3⟩, k4⟩ := hx X hX
  have := k4 H locs ls ws tys ts vs' hp u3 u4 (fun q t hq => (u5 q t hq).imp fun v hv9 => ⟨hv9.1, hv9.2.2.1⟩) u6 u7 (z_ms_s hms hv.2.1 u1 k3 u5)
  rw [u2, hX1] at this
  exact this
/-- the loop is come to for the first time -/
theorem z_lp {X : z_X} {w : z_V} (hstep : z_gx (X :: cx) → z_Ok l base D sa g J d i pc w X.2.2.2.2.1 [] (X :: cx) os) (hmt : z_mt X V L (z_th X V L) = true) (hX1 : X.1 = pc) (hXn : X.2.1 = V.1) (hw : w = z_setF (z_pT X.2.2.1 V) X.2.2.2.2.2.1) (hgx : z_gx cx) : z_Ok l base D sa g J d i pc V L [] cx os := by
  intro p e s m args below meth c Q w0 t0 vs0 H locs ls sv ws tys ts vs C hp hv hL hs hx hf
  have h9 := hs.nil
  subst h9
  obtain ⟨u, vs1, u1, ⟨-, -, u2⟩, u3, u4, u5, u6, u7, u8⟩ := z_mt_s hmt hv hL
  have hgx2 : z_gx (X :: cx) := fun Y hY => by
    rcases List.mem_cons.mp hY with rfl | hY
    · exact u8
    · exact hgx Y hY
  have hok := hstep hgx2
  have hvl := hv.2.1.1
  have hty : ∀ (q : Nat) (t : z_C), X.2.2.1[q]? = some t → (t.1 = 0 ∨ t.1 = 3) ∧ t.2.2 ≤ 4294967295 := fun q t hq => by
    obtain ⟨v, -, -, -, h1, h2, -⟩ := u5 q t hq
    exact ⟨h1, h2⟩
  have claim : ∀ (n : Nat) (H : Heap) (locs : List Loc) (ls : Array Slot) (ws1 : va_W) (tys : List (ClassId × FieldType)) (ts1 : List Nat) (vs' : List Value), z_mu X vs' ≤ n → z_Hp base D g.1 g.2.1 s w0 t0 H locs ws1 tys ts1 → (∀ k, k < X.2.1 → vs'[k]? = vs[k]?) → vs'.length = X.2.1 + X.2.2.1.length → (∀ (q : Nat) (t : z_C), X.2.2.1[q]? = some t → ∃ v, vs'[X.2.1 + q]? = some v ∧ z_tv (q_ad ws1) ts1 t v) → z_Fs sa ws1 ts1 vs' X.2.2.2.2.2.1 → z_Lr sa (q_ad ws1) ts1 vs' X.2.2.2.2.1 (q_ml i) ls → W p l e (q_rm d.1 (9 * d.2) (446 * d.2)) s m args below meth c H locs (9 * V.2.2.2.2.2) (446 * V.2.2.2.2.2) Q (F0 m pc ls []) := by
    intro n
    induction n with
    | zero =>
      intro H locs ls ws1 tys ts1 vs' hn hp1 a1 a2 a3 a4 a5
      have hpre : vs <+: vs' := List.prefix_iff_getElem?.mpr fun k hk => by
        rw [a1 k (by omega)]
        exact List.getElem?_eq_getElem hk
      obtain ⟨u9, rfl⟩ := hpre
      have hul : u9.length = X.2.2.1.length := by rw [List.length_append] at a2; omega
      obtain ⟨k1, k2⟩ := z_pT_s (ad := q_ad ws1) (ts := ts1) (tp := X.2.2.1) (u := u9) hv.2.1 hul (fun q t hq => by
        obtain ⟨v, v1, v2⟩ := a3 q t hq
        rw [List.getElem?_append_right (by omega), show X.2.1 + q - vs.length = q by omega] at v1
        exact ⟨v, v1, v2, hty q t hq⟩)
      have hpre : vs <+: vs ++ u9 := List.prefix_append _ _
      have hsv : z_Sv sa g.1 vs0 ws1 ts1 w (vs ++ u9) := by
        subst hw
        refine ⟨hv.1.trans hpre, k1.same rfl rfl rfl, a4, ?_⟩
        show z_Ds sa g.1 (q_ad ws1) ts1 (vs ++ u9) (z_pT X.2.2.1 V).2.2.2.2.1
        rw [k2]
        exact hv.2.2.2.any hpre
      have hmade : w.2.2.2.2.2 = V.2.2.2.2.2 := by
        subst hw
        show (z_pT X.2.2.1 V).2.2.2.2.2 = _
        rw [k2]
      have := hok p e s m args below meth c Q w0 t0 vs0 H locs ls [] ws1 tys ts1 (vs ++ u9) C hp1 hsv a5 trivial (fun Y hY => by
        rcases List.mem_cons.mp hY with rfl | hY
        · refine ⟨Nat.le_of_eq a2.symm, ⟨by rw [hXn, ← hvl]; exact hv.1.length_le, fun q t hq h0 => ?_⟩, fun H2 locs2 ls2 ws2 tys2 ts2 vs2 b1 b2 b3 b4 b5 b6 b7 => by omega⟩
          obtain ⟨v, v1, v2⟩ := a3 q t hq
          rcases v2 with ⟨_, x, rfl, _⟩ | ⟨h9, _⟩ | ⟨h9, _⟩ | ⟨h9, _⟩
          · exact ⟨x, v1⟩
          all_goals omega
        · exact (hx Y hY).ext (hgx Y hY) hpre) hf
      rw [hmade] at this
      exact this
    | succ n IH =>
      intro H locs ls ws1 tys ts1 vs' hn hp1 a1 a2 a3 a4 a5
      have hpre : vs <+: vs' := List.prefix_iff_getElem?.mpr fun k hk => by
        rw [a1 k (by omega)]
        exact List.getElem?_eq_getElem hk
      obtain ⟨u9, rfl⟩ := hpre
      have hul : u9.length = X.2.2.1.length := by rw [List.length_append] at a2; omega
      obtain ⟨k1, k2⟩ := z_pT_s (ad := q_ad ws1) (ts := ts1) (tp := X.2.2.1) (u := u9) hv.2.1 hul (fun q t hq => by
        obtain ⟨v, v1, v2⟩ := a3 q t hq
        rw [List.getElem?_append_right (by omega), show X.2.1 + q - vs.length = q by omega] at v1
        exact ⟨v, v1, v2, hty q t hq⟩)
      have hpre : vs <+: vs ++ u9 := List.prefix_append _ _
      have hsv : z_Sv sa g.1 vs0 ws1 ts1 w (vs ++ u9) := by
        subst hw
        refine ⟨hv.1.trans hpre, k1.same rfl rfl rfl, a4, ?_⟩
        show z_Ds sa g.1 (q_ad ws1) ts1 (vs ++ u9) (z_pT X.2.2.1 V).2.2.2.2.1
        rw [k2]
        exact hv.2.2.2.any hpre
      have hmade : w.2.2.2.2.2 = V.2.2.2.2.2 := by
        subst hw
        show (z_pT X.2.2.1 V).2.2.2.2.2 = _
        rw [k2]
      have := hok p e s m args below meth c Q w0 t0 vs0 H locs ls [] ws1 tys ts1 (vs ++ u9) C hp1 hsv a5 trivial (fun Y hY => by
        rcases List.mem_cons.mp hY with rfl | hY
        · refine ⟨Nat.le_of_eq a2.symm, ⟨by rw [hXn, ← hvl]; exact hv.1.length_le, fun q t hq h0 => ?_⟩, fun H2 locs2 ls2 ws2 tys2 ts2 vs2 b1 b2 b3 b4 b5 b6 b7 => ?_⟩
          · obtain ⟨v, v1, v2⟩ := a3 q t hq
            rcases v2 with ⟨_, x, rfl, _⟩ | ⟨h9, _⟩ | ⟨h9, _⟩ | ⟨h9, _⟩
            · exact ⟨x, v1⟩
            all_goals omega
          · rw [u2, hX1]
            exact IH H2 locs2 ls2 ws2 tys2 ts2 vs2 (by omega) b1 (fun k hk => (b2 k hk).trans (a1 k hk)) b3 b4 b5 b6
        · exact (hx Y hY).ext (hgx Y hY) hpre) hf
      rw [hmade] at this
      exact this
  exact claim _ H locs ls ws tys ts vs1 (Nat.le_refl _) hp u3 u4 (fun q t hq => (u5 q t hq).imp fun v hv9 => ⟨hv9.1, hv9.2.2.1⟩) u6 u7
end ZL
theorem z_new_s {N : z_N} {V : z_V} {L : List z_C} {k : z_X → z_V → List z_C → Option (List z_O)} {os : List z_O} (h : z_new N V L k = some os) : ∃ (X : z_X) (w : z_V), k X w X.2.2.2.2.1 = some os ∧ X.1 = N.2.1 ∧ X.2.1 = V.1 ∧ w = z_setF (z_pT X.2.2.1 V) X.2.2.2.2.2.1 := by
  unfold z_new at h
  cases h1 : z_sF V.2.2.2.1 N.2.2.2.2.2.2.1 with
  | none => rw [h1] at h; cases h
  | some st =>
    obtain ⟨sf, tf⟩ := st
    rw [h1] at h
    simp only [z_frv_eq] at h
    exact ⟨_, _, h, rfl, rfl, rfl⟩
