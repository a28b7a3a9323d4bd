/-! ===== by hand: unit ===== -/
def h_wl : List Nat := [114, 99, 109, 105, 116, 0]
def h_Mwh : z_M := (278, [(1, 40, 0)], [], [], 0, 1, true, [(0, 2147483762, 2147483762), (0, 2147483747, 2147483747), (0, 2147483757, 2147483757), (0, 2147483753, 2147483753), (0, 2147483764, 2147483764), (0, 2147483648, 2147483648)], [])
theorem h_wlr {v : Option Value} {ws' : va_W} {ts' : List Nat} {bv : List Value} (h : z_CP h_Mwh bv v ws' ts') : ∃ k, k ∈ h_wl ∧ v = some (.int (nI k)) := by
  have h1 := h.1
  rw [if_pos (show h_Mwh.2.2.2.2.2.2.1 = true from rfl)] at h1
  obtain ⟨t, t1, r0, rfl, t2⟩ := h1
  have t1 : t ∈ [((0, 2147483762, 2147483762) : z_C), (0, 2147483747, 2147483747), (0, 2147483757, 2147483757), (0, 2147483753, 2147483753), (0, 2147483764, 2147483764), (0, 2147483648, 2147483648)] := t1
  have key : ∀ k, k < 2147483648 → z_tv (q_ad ws') ts' (0, 2147483648 + k, 2147483648 + k) r0 → some r0 = some (.int (nI k)) := fun k hk h => by
    obtain ⟨x, rfl, x1, x2⟩ := h_tvi h
    have e : x = nI k := h_qn hk (by omega)
    rw [e]
  rcases List.mem_cons.mp t1 with rfl | t1
  · exact ⟨114, by decide, key 114 (by decide) t2⟩
  rcases List.mem_cons.mp t1 with rfl | t1
  · exact ⟨99, by decide, key 99 (by decide) t2⟩
  rcases List.mem_cons.mp t1 with rfl | t1
  · exact ⟨109, by decide, key 109 (by decide) t2⟩
  rcases List.mem_cons.mp t1 with rfl | t1
  · exact ⟨105, by decide, key 105 (by decide) t2⟩
  rcases List.mem_cons.mp t1 with rfl | t1
  · exact ⟨116, by decide, key 116 (by decide) t2⟩
  rcases List.mem_singleton.mp t1 with rfl
  exact ⟨0, by decide, key 0 (by decide) t2⟩
/-- the parser's state, the units counted apart -/
def h_pG (ws : va_W) (ts : List Nat) (jm am rb p0 w u uR pi wi : Nat) (fs : List Value) : Prop := h_ob ws ts jm am fs ∧ ∃ (s : Nat → Nat) (eW eS fk fn fu : Nat → Int32) (cd ur : Nat), fs[35]? = some (.int (nI rb)) ∧ fs[36]? = some (.int (nI cd)) ∧ fs[37]? = some (.int (nI wi)) ∧ fs[38]? = some (.int (nI pi)) ∧ (fs[39]? = some (.int (nI ur)) ∧ ur ≤ 30) ∧ (h_rw ws ts fs 31 63 90 eW ∧ h_rw ws ts fs 32 64 90 eS) ∧ (h_rw ws ts fs 29 61 1120 fk ∧ h_rw ws ts fs 30 62 1120 fn) ∧ (h_rw ws ts fs 17 46 2 fu ∧ fu rb = nI uR) ∧ h_pi w s eW eS fk pi wi cd u p0
section HG
variable {ws ws' : va_W} {ts ts' : List Nat} {tys : List (ClassId × FieldType)} {kc : List z_C} {jm am rb p0 w u uR pi wi : Nat} {fs : List Value}
theorem h_pG.fr (hf : z_Fr kc ws ts ws' ts') (hw : z_W z_tt ws' tys ts') (hk : h_kf kc) (h : h_pG ws ts jm am rb p0 w u uR pi wi fs) : ∃ fs', h_pG ws' ts' jm am rb p0 w u uR pi wi fs' ∧ ∀ k, ¬ z_wr kc 40 k → fs'[k]? = fs[k]? := by
  obtain ⟨hb, s, eW, eS, fk, fn, fu, cd, ur, f35, f36, f37, f38, ⟨f39, f39b⟩, ⟨r1, r2⟩, ⟨r3, r4⟩, ⟨r5, r6⟩, hp⟩ := h
  obtain ⟨fs', hb', he⟩ := hb.fr hf hw
  have hi : ∀ k, 11 ≤ k → fs'[k]? = fs[k]? := fun k h9 => he k (fun q => by have := (hk 40 k q).2.2; omega)
  have hz : ∀ (t : Nat), ¬ t = 40 → ∀ (n q : Nat), q < n → ¬ z_wr kc t q := fun t h9 n q _ hq => h9 (hk t q hq).1
  exact ⟨fs', ⟨hb', s, eW, eS, fk, fn, fu, cd, ur, by rw [hi 35 (by decide)]; exact f35, by rw [hi 36 (by decide)]; exact f36, by rw [hi 37 (by decide)]; exact f37, by rw [hi 38 (by decide)]; exact f38, ⟨by rw [hi 39 (by decide)]; exact f39, f39b⟩, ⟨r1.fr hf hw (hi 31 (by decide)) (Or.inl rfl) rfl (hz 63 (by decide) 90), r2.fr hf hw (hi 32 (by decide)) (Or.inl rfl) rfl (hz 64 (by decide) 90)⟩, ⟨r3.fr hf hw (hi 29 (by decide)) (Or.inl rfl) rfl (hz 61 (by decide) 1120), r4.fr hf hw (hi 30 (by decide)) (Or.inl rfl) rfl (hz 62 (by decide) 1120)⟩, ⟨r5.fr hf hw (hi 17 (by decide)) (Or.inl rfl) rfl (hz 46 (by decide) 2), r6⟩, hp⟩, he⟩
end HG
/-- behind unit -/
def h_pun (jm am rb p0 u wi : Nat) : Option Value → va_W → List Nat → Prop := fun v ws ts => ∃ fs, h_ob ws ts jm am fs ∧ h_en fs ∧ ((h_bad fs ∧ ∃ b, b < 2 ∧ v = some (.int (nI b))) ∨ (v = some (.int (nI 1)) ∧ ∃ pi', (∃ u' wi', h_pF ws ts jm am rb p0 1 u' pi' wi' fs ∧ (u < u' ∨ (u' = u ∧ wi < wi')))) ∨ (v = some (.int (nI 0)) ∧ ∃ u' pi' wi', h_pF ws ts jm am rb p0 0 u' pi' wi' fs ∧ u < u'))
theorem h_let_wl {k : Nat} (h : k ∈ h_wl) (h0 : ¬ k = 0) : h_let (nI k) = 1 ∧ ¬ nI k = nI 126 := by
  have h : k ∈ [114, 99, 109, 105, 116, 0] := h
  simp only [List.mem_cons, List.not_mem_nil, or_false] at h
  rcases h with rfl | rfl | rfl | rfl | rfl | rfl
  · exact ⟨by decide, by decide⟩
  · exact ⟨by decide, by decide⟩
  · exact ⟨by decide, by decide⟩
  · exact ⟨by decide, by decide⟩
  · exact ⟨by decide, by decide⟩
  · exact absurd rfl h0
theorem h_wl_lt {k : Nat} (h : k ∈ h_wl) : k < 200 := by
  have h : k ∈ [114, 99, 109, 105, 116, 0] := h
  simp only [List.mem_cons, List.not_mem_nil, or_false] at h
  omega
section HY
variable {l : Launch} {base : Nat} {D : va_G} {sa : Nat → Nat} {J : va_W → List Nat → Prop} {ws : va_W} {ts : List Nat}
theorem h_m_unit (hok : ∀ i, i < q_nM → q_mok i) (hcl : q_clok) {rb : Nat} (hrb : rb < 2) (hJ : ∀ ws' ts', z_Fr (h_ke rb) ws ts ws' ts' → J ws' ts') (hW : z_Con l base D sa z_tt J h_Mword) (hWh : z_Con l base D sa z_tt J h_Mwh) (hMi : z_Con l base D sa z_tt J h_Mmis) (hGo : z_Con l base D sa z_tt J h_Mgo) {jm am p0 u pi wi : Nat} {fs : List Value} (hp0 : p0 = 560 * rb) (h : h_pF ws ts jm am rb p0 1 u pi wi fs) (hen : h_en fs) : z_Met l base D sa z_tt (h_ke rb) (4, 0) 275 [.ref am] ws ts (h_pun jm am rb p0 u wi) := by
  refine y_meth (J := J) (hok 275 (by decide)) (fun v hv => by rcases List.mem_singleton.mp hv with rfl; rfl) (show 1 ≤ 7 by decide) hJ ?_
  intro p e s9 m below meth c9 X hX hC hQ
  have hi : y_i X = 275 := by rw [hX]
  have htt : y_tt X = z_tt := by rw [hX]
  have hd : y_d X = (4, 0) := by rw [hX]
  have hkw : y_kw X = h_ke rb := by rw [hX]
  have hW2 : z_Con (y_l X) (y_b X) (y_D X) (y_sa X) (y_tt X) (y_J X) h_Mword := by rw [hX]; exact hW
  have hWh2 : z_Con (y_l X) (y_b X) (y_D X) (y_sa X) (y_tt X) (y_J X) h_Mwh := by rw [hX]; exact hWh
  have hMi2 : z_Con (y_l X) (y_b X) (y_D X) (y_sa X) (y_tt X) (y_J X) h_Mmis := by rw [hX]; exact hMi
  have hGo2 : z_Con (y_l X) (y_b X) (y_D X) (y_sa X) (y_tt X) (y_J X) h_Mgo := by rw [hX]; exact hGo
  clear hX
  have E := y_Ei hok hi (by decide) (cd := q_cd275) rfl
  have hn : (0 : Nat) ≤ (y_d X).2 := Nat.zero_le _
  have dp : ∀ k, k ≤ 4 → k ≤ (y_d X).1 := fun k hk => by rw [hd]; exact hk
  have h63 : (y_tt X 63).1 = 1 := by rw [htt]; rfl
  have h46 : (y_tt X 46).1 = 1 := by rw [htt]; rfl
  have kf0 : h_kf [] := fun t q hq => absurd hq (h_nwr t q)
  -- the end: behind goOn
  have s214 : ∀ (ws : va_W) (ts : List Nat) (fs : List Value) (b1 bn bb c0 bf uR : Nat) (n0 : Int32), h_pG ws ts jm am rb p0 1 u uR pi wi fs → h_en fs → bn < 2 → bb < 2 → c0 ∈ h_wl → uR = u + (1 - bn) → uR ≤ 60 → ((bn = 0 ∧ bb = 0) ∨ wi < 7) → Y X 0 214 [some (.ref am), some (.int (nI b1)), some (.int (nI bn)), some (.int (nI bb)), some (.int (nI c0)), some (.int (nI bf)), some (.int n0)] [] ws ts := by
    intro ws ts fs b1 bn bb c0 bf uR n0 hG hee hbn hbb hc0 huR hu60 hwi
    obtain ⟨hb, s, eW, eS, fk, fn, fu, cd, ur, f35, f36, f37, f38, ⟨f39, f39b⟩, ⟨r1, r2⟩, ⟨r3, r4⟩, ⟨r5, r6⟩, hp⟩ := hG
    have hbnd := hp.bnd
    have mark : ¬ (bn = 0 ∧ bb = 0) → Y X 0 222 [some (.ref am), some (.int (nI b1)), some (.int (nI bn)), some (.int (nI bb)), some (.int (nI c0)), some (.int (nI bf)), some (.int n0)] [] ws ts := by
      intro hm
      have hw7 : wi < 7 := by
        rcases hwi with h | h
        · exact absurd h hm
        · exact h
      obtain ⟨je, ae, cE, g, q1, q2⟩ := id r1
      obtain ⟨js, as9, cS, g9, q3, q4⟩ := id r2
      have push : ∀ r, (r = 3 ∧ bn = 1) ∨ (r = 7 ∧ bn = 0) → Y X 0 233 [some (.ref am), some (.int (nI b1)), some (.int (nI bn)), some (.int (nI bb)), some (.int (nI c0)), some (.int (nI bf)), some (.int n0)] [.int (nI r), .ref am] ws ts := by
        intro r hr
        refine y_bp hC (E 123 _ rfl) ?_
        refine y_vir hok hC (E 124 _ rfl) (by decide) (As := [.int (nI r), .int (nI 126)]) (rv := []) (dd := (0, 0)) (by rw [htt]; exact h_m_push hok hcl hb f38 (by omega) q1 q3 (w9 := r) (by omega) (nI 126)) hb.1 rfl rfl (dp 1 (by decide)) hn h_cat0 ?_ (fun v ws3 ts3 _ hpo => ?_)
        · rw [hkw]
          intro t q hq
          obtain ⟨e, e1, e2, e3, e4⟩ := z_kw_iff.mp hq
          rcases List.mem_cons.mp e1 with rfl | e1
          · subst e2
            exact h_wrm (t := 63) (lo := 2147483648) (hi := 2147483737) (by simp [h_ke]) e3 e4
          rcases List.mem_cons.mp e1 with rfl | e1
          · subst e2
            exact h_wrm (t := 64) (lo := 2147483648) (hi := 2147483737) (by simp [h_ke]) e3 e4
          · rcases List.mem_singleton.mp e1 with rfl
            subst e2
            have e3 : 2147483686 ≤ 2147483648 + q := e3
            have e4 : 2147483648 + q ≤ 2147483686 := e4
            exact h_kef (by omega)
        obtain ⟨rfl, rfl, rfl⟩ := hpo
        obtain ⟨hb3, v1, v2, mv⟩ := h_upd2 (q := 38) hb q1 q3 (by decide) (by decide) (by decide) (by decide) (by decide) (upd g pi (nI r)) (upd g9 pi (nI 126)) (.int (nI (pi + 1)))
        have f3 : ∀ k, ¬ 38 = k → (fs.set 38 (.int (nI (pi + 1))))[k]? = fs[k]? := fun k hk => List.getElem?_set_ne hk
        have v1' := v1.ext (g := upd eW pi (nI r)) (fun q hq => by
          by_cases eq : q = pi
          · subst eq
            rw [pk_us, pk_us]
          · rw [pk_un eq, pk_un eq]
            exact q2 q hq)
        have v2' := v2.ext (g := upd eS pi (nI 126)) (fun q hq => by
          by_cases eq : q = pi
          · subst eq
            rw [pk_us, pk_us]
          · rw [pk_un eq, pk_un eq]
            exact q4 q hq)
        have m3 := mv _ _ _ _ r3 (by decide) (by decide) (by decide) (by decide)
        have m4 := mv _ _ _ _ r4 (by decide) (by decide) (by decide) (by decide)
        have m5 := mv _ _ _ _ r5 (by decide) (by decide) (by decide) (by decide)
        have g38 : (fs.set 38 (.int (nI (pi + 1))))[38]? = some (.int (nI (pi + 1))) := List.getElem?_set_self (by rw [hb.2.2]; decide)
        have g35 := (f3 35 (by decide)).trans f35
        have g36 := (f3 36 (by decide)).trans f36
        have g37 := (f3 37 (by decide)).trans f37
        have g39 := (f3 39 (by decide)).trans f39
        have en3 : h_en (fs.set 38 (.int (nI (pi + 1)))) := by
          obtain ⟨e0, e1, e2⟩ := hee
          exact ⟨e0, (f3 7 (by decide)).trans e1, e2⟩
        clear v1 v2 mv f3
        generalize fs.set 38 (.int (nI (pi + 1))) = fs4 at hb3 v1' v2' m3 m4 m5 g38 g35 g36 g37 g39 en3
        generalize ((ws.set je (ae, .inl (cE, 90, .inl (upd g pi (nI r))))).set js (as9, .inl (cS, 90, .inl (upd g9 pi (nI 126))))).set jm (am, .inr (9, fs4)) = ws4 at hb3 v1' v2' m3 m4 m5
        show Y X 0 238 [some (.ref am), some (.int (nI b1)), some (.int (nI bn)), some (.int (nI bb)), some (.int (nI c0)), some (.int (nI bf)), some (.int n0)] [] ws4 ts3
        refine y_aln hC (E 125 _ rfl) rfl ?_
        refine y_dup hC (E 126 _ rfl) rfl ?_
        refine y_get hcl hC (E 127 _ rfl) hb3.1 g37 ?_
        refine y_ic hC (E 128 _ rfl) ?_
        refine y_add hC (E 129 _ rfl) ?_
        rw [nI_add]
        refine y_put hcl hC (E 130 _ rfl) hb3.1 hb3.2.1 (by rw [htt]; rfl) ?_ (by rw [hb3.2.2]; decide) (by rw [hkw]; exact h_kef (by omega)) (Or.inl ⟨rfl, _, rfl⟩) ?_
        · rw [htt]
          show z_tv _ ts3 (0, 2147483648, 2147483655) _
          exact h_tvn (by omega) (by omega) (by omega)
        obtain ⟨hbB, mvB⟩ := h_upd0 (q := 37) hb3 (.int (nI (wi + 1)))
        have fB : ∀ k, ¬ 37 = k → (fs4.set 37 (.int (nI (wi + 1))))[k]? = fs4[k]? := fun k hk => List.getElem?_set_ne hk
        refine y_ic hC (E 131 _ rfl) ?_
        refine y_zr hC hQ (E 132 _ rfl) hn (by decide) ⟨_, hbB, ?_, Or.inr (Or.inl ⟨rfl, pi + 1, uR, wi + 1, ⟨hbB, h_sup s pi r, _, _, fk, fn, fu, cd, ur, (fB 35 (by decide)).trans g35, (fB 36 (by decide)).trans g36, List.getElem?_set_self (by rw [hb3.2.2]; decide), (fB 38 (by decide)).trans g38, ⟨(fB 39 (by decide)).trans g39, f39b⟩, ⟨mvB _ _ _ _ v1' (by decide) (by decide), mvB _ _ _ _ v2' (by decide) (by decide)⟩, ⟨mvB _ _ _ _ m3 (by decide) (by decide), mvB _ _ _ _ m4 (by decide) (by decide)⟩, ⟨mvB _ _ _ _ m5 (by decide) (by decide), r6⟩, hp.mark (by omega) hw7 (by omega) hu60⟩, by omega⟩)⟩
        obtain ⟨e0, e1, e2⟩ := en3
        exact ⟨e0, (fB 7 (by decide)).trans e1, e2⟩
      refine y_aln hC (E 117 _ rfl) rfl ?_
      refine y_iln hC (E 118 _ rfl) rfl ?_
      refine y_if hC (E 119 _ rfl) (fun hx => ?_) (fun hx => ?_)
      · rcases h_nI01 hbn with ⟨_, q⟩ | ⟨q, _⟩
        · refine y_bp hC (E 122 _ rfl) ?_
          exact push 7 (Or.inr ⟨rfl, q⟩)
        · exact absurd hx q
      · rcases h_nI01 hbn with ⟨q, _⟩ | ⟨_, q⟩
        · exact absurd q hx
        · refine y_ic hC (E 120 _ rfl) ?_
          refine y_go hC (E 121 _ rfl) ?_
          exact push 3 (Or.inl ⟨rfl, q⟩)
    refine y_iln hC (E 113 _ rfl) rfl ?_
    refine y_if hC (E 114 _ rfl) (fun hx => ?_) (fun hx => ?_)
    · rcases h_nI01 hbn with ⟨q, _⟩ | ⟨_, q⟩
      · exact absurd q hx
      · exact mark (fun z => by omega)
    have hbn0 : bn = 0 := by
      rcases h_nI01 hbn with ⟨_, q⟩ | ⟨q, _⟩
      · exact q
      · exact absurd hx q
    refine y_iln hC (E 115 _ rfl) rfl ?_
    refine y_if hC (E 116 _ rfl) (fun hy => ?_) (fun hy => ?_)
    · -- a leaf
      obtain ⟨jk, ak, cK, gk, u5, u6⟩ := id r3
      obtain ⟨jn, an, cN, gn, u7, u8⟩ := id r4
      have hu : u < 60 := by omega
      have a1 := hp.2.2.2.2.2.2.2.1 rfl
      have a3 := hp.2.2.2.2.1
      have a4 := hp.2.2.2.1
      have hcd : cd < p0 + 560 := by omega
      have leaf : ∀ c : Int32, h_let c = 1 → ¬ c = nI 126 → Y X 0 263 [some (.ref am), some (.int (nI b1)), some (.int (nI bn)), some (.int (nI bb)), some (.int (nI c0)), some (.int (nI bf)), some (.int n0)] [.int c, .ref am] ws ts := by
        intro c hc1 hc2
        refine y_il hC (E 139 _ rfl) rfl ?_
        refine y_vir hok hC (E 140 _ rfl) (by decide) (As := [.int c, .int n0]) (rv := []) (dd := (0, 0)) (by rw [htt]; exact h_m_emit hok hcl hb f36 (by omega) u5 u7 c n0) hb.1 rfl rfl (dp 1 (by decide)) hn h_cat0 ?_ (fun v ws3 ts3 _ hpo => ?_)
        · rw [hkw]
          intro t q hq
          obtain ⟨e, e1, e2, e3, e4⟩ := z_kw_iff.mp hq
          rcases List.mem_cons.mp e1 with rfl | e1
          · subst e2
            have e3 : 2147483648 + cd ≤ 2147483648 + q := e3
            have e4 : 2147483648 + q ≤ 2147483648 + cd := e4
            exact h_wrm (t := 61) (lo := 2147483648 + 560 * rb) (hi := 2147484207 + 560 * rb) (by simp [h_ke]) (by omega) (by omega)
          rcases List.mem_cons.mp e1 with rfl | e1
          · subst e2
            have e3 : 2147483648 + cd ≤ 2147483648 + q := e3
            have e4 : 2147483648 + q ≤ 2147483648 + cd := e4
            exact h_wrm (t := 62) (lo := 2147483648 + 560 * rb) (hi := 2147484207 + 560 * rb) (by simp [h_ke]) (by omega) (by omega)
          · rcases List.mem_singleton.mp e1 with rfl
            subst e2
            have e3 : 2147483684 ≤ 2147483648 + q := e3
            have e4 : 2147483648 + q ≤ 2147483684 := e4
            exact h_kef (by omega)
        obtain ⟨rfl, rfl, rfl⟩ := hpo
        obtain ⟨hb3, v1, v2, mv⟩ := h_upd2 (q := 36) hb u5 u7 (by decide) (by decide) (by decide) (by decide) (by decide) (upd gk cd c) (upd gn cd n0) (.int (nI (cd + 1)))
        have f3 : ∀ k, ¬ 36 = k → (fs.set 36 (.int (nI (cd + 1))))[k]? = fs[k]? := fun k hk => List.getElem?_set_ne hk
        show Y X 0 268 [some (.ref am), some (.int (nI b1)), some (.int (nI bn)), some (.int (nI bb)), some (.int (nI c0)), some (.int (nI bf)), some (.int n0)] [] _ ts3
        refine y_ic hC (E 141 _ rfl) ?_
        refine y_zr hC hQ (E 142 _ rfl) hn (by decide) ⟨_, hb3, ?_, Or.inr (Or.inr ⟨rfl, u + 1, pi, wi, ⟨hb3, s, eW, eS, upd fk cd c, _, fu, cd + 1, ur, (f3 35 (by decide)).trans f35, List.getElem?_set_self (by rw [hb.2.2]; decide), (f3 37 (by decide)).trans f37, (f3 38 (by decide)).trans f38, ⟨(f3 39 (by decide)).trans f39, f39b⟩, ⟨mv _ _ _ _ r1 (by decide) (by decide) (by decide) (by decide), mv _ _ _ _ r2 (by decide) (by decide) (by decide) (by decide)⟩, ⟨v1.ext (fun q hq => ?_), v2⟩, ⟨mv _ _ _ _ r5 (by decide) (by decide) (by decide) (by decide), by rw [r6, huR, hbn0]⟩, hp.leaf hu hc1 hc2⟩, by omega⟩)⟩
        · obtain ⟨e0, e1, e2⟩ := hee
          exact ⟨e0, (f3 7 (by decide)).trans e1, e2⟩
        · by_cases eq : q = cd
          · subst eq
            rw [pk_us, pk_us]
          · rw [pk_un eq, pk_un eq]
            exact u6 q hq
      refine y_aln hC (E 133 _ rfl) rfl ?_
      refine y_il hC (E 134 _ rfl) rfl ?_
      refine y_if hC (E 135 _ rfl) (fun hz => ?_) (fun hz => ?_)
      · refine y_il hC (E 138 _ rfl) rfl ?_
        have h0 : ¬ c0 = 0 := fun e => by
          subst e
          exact hz nI_0
        exact leaf _ (h_let_wl hc0 h0).1 (h_let_wl hc0 h0).2
      · refine y_bp hC (E 136 _ rfl) ?_
        refine y_go hC (E 137 _ rfl) ?_
        exact leaf _ (by decide) (by decide)
    · refine mark (fun z => ?_)
      rw [z.2] at hy
      exact hy nI_0
  -- from isGood on
  have s147 : ∀ (ws : va_W) (ts : List Nat) (fs : List Value) (b1 bn bb c0 bf : Nat), h_pF ws ts jm am rb p0 1 u pi wi fs → h_en fs → bn < 2 → bb < 2 → c0 ∈ h_wl → (h_bad fs ∨ ((bn = 1 ∨ (u < 60 ∧ ∃ ur, fs[39]? = some (.int (nI ur)) ∧ ur < 30)) ∧ ((bn = 0 ∧ bb = 0) ∨ wi < 7))) → Y X 0 147 [some (.ref am), some (.int (nI b1)), some (.int (nI bn)), some (.int (nI bb)), some (.int (nI c0)), some (.int (nI bf)), none] [] ws ts := by
    intro ws ts fs b1 bn bb c0 bf hF hee hbn hbb hc0 hfin
    refine y_ty (fun tys hw hD => ?_)
    rw [htt] at hw
    obtain ⟨o2, o3⟩ := h_objt hw hF.1.1 hF.1.2.1
    obtain ⟨x4, x41, -⟩ := h_fi o2 o3 (k := 4) (lo := 2147483648) (hi := 2147483652) (by decide) rfl
    refine y_aln hC (E 76 _ rfl) rfl ?_
    refine y_virp hok hC (E 77 _ rfl) (by decide) (As := []) (rv := []) (by rw [htt]; exact h_m_good hok hcl hF.1 x41) hF.1.1 rfl rfl (dp 1 (by decide)) hn h_cat0 ?_
    refine y_if hC (E 78 _ rfl) (fun hg => ?_) (fun hg => ?_)
    · have hx0 : x4 = 0 := by
        unfold h_good at hg
        split at hg
        · assumption
        · exact absurd nI_0 hg
      have hfin2 : (bn = 1 ∨ (u < 60 ∧ ∃ ur, fs[39]? = some (.int (nI ur)) ∧ ur < 30)) ∧ ((bn = 0 ∧ bb = 0) ∨ wi < 7) := by
        rcases hfin with ⟨x, e1, e2⟩ | hh
        · rw [x41] at e1
          cases e1
          exact absurd hx0 e2
        · exact hh
      obtain ⟨hb, s, eW, eS, fk, fn, fu, cd, ur, f35, f36, f37, f38, ⟨f39, f39b⟩, ⟨r1, r2⟩, ⟨r3, r4⟩, ⟨r5, r6⟩, hp⟩ := hF
      obtain ⟨ju, au, cU, gu, t1, t2⟩ := id r5
      have hu60 : u + (1 - bn) ≤ 60 := by
        have := hp.2.2.2.2.2.2.1
        rcases hfin2.1 with h | h
        · omega
        · omega
      have hur : ur + (1 - bn) ≤ 30 := by
        rcases hfin2.1 with h | ⟨_, ur2, e1, e2⟩
        · omega
        · rw [f39] at e1
          have e1 : nI ur = nI ur2 := Value.int.inj (Option.some.inj e1)
          have := (nI_eq (by omega) (by omega)).mp e1
          omega
      -- the units are counted
      have s175 : Y X 0 175 [some (.ref am), some (.int (nI b1)), some (.int (nI bn)), some (.int (nI bb)), some (.int (nI c0)), some (.int (nI bf)), none] [.int (nI (1 - bn)), .int (nI u), .int (nI rb), .ref au] ws ts := by
        refine y_add hC (E 92 _ rfl) ?_
        rw [nI_add]
        refine y_ast hC (E 93 _ rfl) t1.2.1 t1.2.2 h46 hrb (by decide) ?_ (by rw [hkw]; exact h_wrm (t := 46) (lo := 2147483648 + rb) (hi := 2147483648 + rb) (by simp [h_ke]) (Nat.le_refl _) (Nat.le_refl _)) ?_
        · rw [htt]
          show (z_el [(2, 2147483648, 2147483708)] (rb % 2)).1 ≤ _ ∧ _ ≤ (z_el [(2, 2147483648, 2147483708)] (rb % 2)).2
          rw [h_el25 rb (by decide), z_qnI (by omega)]
          exact ⟨by omega, by omega⟩
        have hbA := hb.set (e := (au, .inl (cU, 2, .inl (upd gu rb (nI (u + (1 - bn))))))) t1.2.2 (by decide)
        have mA : ∀ (k t n : Nat) (f : Nat → Int32), h_rw ws ts fs k t n f → ¬ 46 = t → h_rw (ws.set ju (au, .inl (cU, 2, .inl (upd gu rb (nI (u + (1 - bn))))))) ts fs k t n f := fun k t n f hh hne => hh.set t1.2.2 hne
        have uA := h_rw.of (t1.self (upd gu rb (nI (u + (1 - bn)))))
        have n1 := mA _ _ _ _ r1 (by decide)
        have n2 := mA _ _ _ _ r2 (by decide)
        have n3 := mA _ _ _ _ r3 (by decide)
        have n4 := mA _ _ _ _ r4 (by decide)
        clear mA
        generalize ws.set ju (au, .inl (cU, 2, .inl (upd gu rb (nI (u + (1 - bn)))))) = wsA at hbA uA n1 n2 n3 n4
        -- unitsInRule
        have s191 : Y X 0 191 [some (.ref am), some (.int (nI b1)), some (.int (nI bn)), some (.int (nI bb)), some (.int (nI c0)), some (.int (nI bf)), none] [.int (nI (1 - bn)), .int (nI ur), .ref am] wsA ts := by
          refine y_add hC (E 102 _ rfl) ?_
          rw [nI_add]
          refine y_put hcl hC (E 103 _ rfl) hbA.1 hbA.2.1 (by rw [htt]; rfl) ?_ (by rw [hbA.2.2]; decide) (by rw [hkw]; exact h_kef (by omega)) (Or.inl ⟨rfl, _, rfl⟩) ?_
          · rw [htt]
            show z_tv _ ts (0, 2147483648, 2147483678) _
            exact h_tvn (by omega) (by omega) (by omega)
          obtain ⟨hbB, mvB⟩ := h_upd0 (q := 39) hbA (.int (nI (ur + (1 - bn))))
          have fB : ∀ k, ¬ 39 = k → (fs.set 39 (.int (nI (ur + (1 - bn)))))[k]? = fs[k]? := fun k hk => List.getElem?_set_ne hk
          have hG : h_pG (wsA.set jm (am, .inr (9, fs.set 39 (.int (nI (ur + (1 - bn))))))) ts jm am rb p0 1 u (u + (1 - bn)) pi wi (fs.set 39 (.int (nI (ur + (1 - bn))))) := ⟨hbB, s, eW, eS, fk, fn, _, cd, ur + (1 - bn), (fB 35 (by decide)).trans f35, (fB 36 (by decide)).trans f36, (fB 37 (by decide)).trans f37, (fB 38 (by decide)).trans f38, ⟨List.getElem?_set_self (by rw [hbA.2.2]; decide), hur⟩, ⟨mvB _ _ _ _ n1 (by decide) (by decide), mvB _ _ _ _ n2 (by decide) (by decide)⟩, ⟨mvB _ _ _ _ n3 (by decide) (by decide), mvB _ _ _ _ n4 (by decide) (by decide)⟩, ⟨mvB _ _ _ _ uA (by decide) (by decide), pk_us ..⟩, hp⟩
          have enB : h_en (fs.set 39 (.int (nI (ur + (1 - bn))))) := by
            obtain ⟨e0, e1, e2⟩ := hee
            exact ⟨e0, (fB 7 (by decide)).trans e1, e2⟩
          generalize fs.set 39 (.int (nI (ur + (1 - bn)))) = fsB at hG enB hbB
          generalize wsA.set jm (am, .inr (9, fsB)) = wsB at hG hbB
          have s208 : ∀ n0 : Int32, Y X 0 208 [some (.ref am), some (.int (nI b1)), some (.int (nI bn)), some (.int (nI bb)), some (.int (nI c0)), some (.int (nI bf)), none] [.int n0] wsB ts := by
            intro n0
            refine y_is hC (E 110 _ rfl) ?_
            refine y_tyJ hC (fun tys4 hw4 hD4 hJ4 _ => ?_)
            refine y_aln hC (E 111 _ rfl) rfl ?_
            obtain ⟨bv, hbv, hbv0⟩ := enB.pf hG.1 (av := [.ref am]) rfl
            refine y_vir hok hC (E 112 _ rfl) (by decide) (As := []) (rv := []) (dd := (1, 0)) (kc := [(40, 2147483654, 2147483658)]) (hGo2 _ ts [.ref am] bv ⟨h_ta_m hG.1, trivial⟩ hbv hJ4) hG.1.1 rfl rfl (dp 2 (by decide)) hn h_cat0 (by rw [hkw]; exact (h_kf1 (by decide) (by decide)).sub) (fun v ws5 ts5 hf5 hpo => ?_)
            have hv9 := hpo.1
            rw [if_neg (show ¬ h_Mgo.2.2.2.2.2.2.1 = true by decide)] at hv9
            subst hv9
            refine y_ty (fun tys5 hw5 hD5 => ?_)
            rw [htt] at hw5
            obtain ⟨fs5, hG5, -⟩ := hG.fr hf5 hw5 (h_kf1 (by decide) (by decide))
            obtain ⟨x7, x71, x72, x73⟩ := h_en_of hD5 hG5.1 hbv0 (hpo.2 _ (List.mem_singleton.mpr rfl))
            exact s214 ws5 ts5 fs5 b1 bn bb c0 bf (u + (1 - bn)) n0 hG5 (h_en_x x71 x72 x73) hbn hbb hc0 rfl hu60 hfin2.2
          refine y_il hC (E 104 _ rfl) rfl ?_
          refine y_if hC (E 105 _ rfl) (fun _ => ?_) (fun _ => ?_)
          · refine y_ic hC (E 109 _ rfl) ?_
            exact s208 _
          · refine y_ty (fun tys6 hw6 hD6 => ?_)
            rw [htt] at hw6
            obtain ⟨p2, p3⟩ := h_objt hw6 hG.1.1 hG.1.2.1
            obtain ⟨x9, x91, -⟩ := h_fi p2 p3 (k := 9) (lo := 0) (hi := 4294967295) (by decide) rfl
            refine y_aln hC (E 106 _ rfl) rfl ?_
            refine y_get hcl hC (E 107 _ rfl) hG.1.1 x91 ?_
            refine y_go hC (E 108 _ rfl) ?_
            exact s208 _
        refine y_aln hC (E 94 _ rfl) rfl ?_
        refine y_dup hC (E 95 _ rfl) rfl ?_
        refine y_get hcl hC (E 96 _ rfl) hbA.1 f39 ?_
        refine y_iln hC (E 97 _ rfl) rfl ?_
        refine y_if hC (E 98 _ rfl) (fun hx => ?_) (fun hx => ?_)
        · have q : bn = 0 := by
            rcases h_nI01 hbn with ⟨_, q⟩ | ⟨q, _⟩
            · exact q
            · exact absurd hx q
          refine y_ic hC (E 101 _ rfl) ?_
          rw [q] at s191 ⊢
          exact s191
        · have q : bn = 1 := by
            rcases h_nI01 hbn with ⟨q, _⟩ | ⟨_, q⟩
            · exact absurd q hx
            · exact q
          refine y_ic hC (E 99 _ rfl) ?_
          refine y_go hC (E 100 _ rfl) ?_
          rw [q] at s191 ⊢
          exact s191
      refine y_aln hC (E 81 _ rfl) rfl ?_
      refine y_get hcl hC (E 82 _ rfl) hb.1 t1.1 ?_
      refine y_aln hC (E 83 _ rfl) rfl ?_
      refine y_get hcl hC (E 84 _ rfl) hb.1 f35 ?_
      refine y_dup2 hC (E 85 _ rfl) rfl rfl ?_
      refine y_ald hC (E 86 _ rfl) t1.2.1 t1.2.2 h46 hrb (by decide) ?_
      rw [t2 rb hrb, r6]
      refine y_iln hC (E 87 _ rfl) rfl ?_
      refine y_if hC (E 88 _ rfl) (fun hx => ?_) (fun hx => ?_)
      · have q : bn = 0 := by
          rcases h_nI01 hbn with ⟨_, q⟩ | ⟨q, _⟩
          · exact q
          · exact absurd hx q
        refine y_ic hC (E 91 _ rfl) ?_
        rw [q] at s175 ⊢
        exact s175
      · have q : bn = 1 := by
          rcases h_nI01 hbn with ⟨q, _⟩ | ⟨_, q⟩
          · exact absurd q hx
          · exact q
        refine y_ic hC (E 89 _ rfl) ?_
        refine y_go hC (E 90 _ rfl) ?_
        rw [q] at s175 ⊢
        exact s175
    · have hx0 : ¬ x4 = 0 := fun e => by
        have hg : nI (h_good x4) = 0 := hg
        rw [h_good, if_pos e] at hg
        exact absurd hg (by decide)
      refine y_ic hC (E 79 _ rfl) ?_
      exact y_zr hC hQ (E 80 _ rfl) hn (by decide) ⟨fs, hF.1, hee, Or.inl ⟨⟨x4, x41, hx0⟩, 1, by decide, rfl⟩⟩
  -- misplaced, or not
  have s100 : ∀ (ws : va_W) (ts : List Nat) (fs : List Value) (b1 bn bb c0 bf : Nat), h_pF ws ts jm am rb p0 1 u pi wi fs → h_en fs → bn < 2 → bb < 2 → c0 ∈ h_wl → bf < 2 → (bf = 0 → u < 60 ∧ ∃ ur, fs[39]? = some (.int (nI ur)) ∧ ur < 30) → Y X 0 100 [some (.ref am), some (.int (nI b1)), some (.int (nI bn)), some (.int (nI bb)), some (.int (nI c0)), some (.int (nI bf)), none] [] ws ts := by
    intro ws ts fs b1 bn bb c0 bf hF hee hbn hbb hc0 hbf hful
    have f37 : fs[37]? = some (.int (nI wi)) := by
      obtain ⟨_, _, _, _, _, _, _, _, _, _, _, f37, _⟩ := hF
      exact f37
    have hwi7 : wi ≤ 7 := by
      obtain ⟨-, _, _, _, _, _, _, _, _, _, _, _, _, _, _, _, _, hp⟩ := hF
      exact hp.2.2.2.1
    have bad : Y X 0 143 [some (.ref am), some (.int (nI b1)), some (.int (nI bn)), some (.int (nI bb)), some (.int (nI c0)), some (.int (nI bf)), none] [] ws ts := by
      refine y_tyJ hC (fun tys4 hw4 hD4 hJ4 _ => ?_)
      refine y_aln hC (E 74 _ rfl) rfl ?_
      refine y_vir hok hC (E 75 _ rfl) (by decide) (As := []) (rv := []) (dd := (1, 0)) (kc := [(40, 2147483652, 2147483653)]) (hMi2 _ _ [.ref am] [.ref am] ⟨h_ta_m hF.1, trivial⟩ rfl hJ4) hF.1.1 rfl rfl (dp 2 (by decide)) hn h_cat0 (by rw [hkw]; exact (h_kf1 (by decide) (by decide)).sub) (fun v ws5 ts5 hf5 hpo => ?_)
      have hv9 := hpo.1
      rw [if_neg (show ¬ h_Mmis.2.2.2.2.2.2.1 = true by decide)] at hv9
      subst hv9
      refine y_ty (fun tys5 hw5 hD5 => ?_)
      rw [htt] at hw5
      obtain ⟨fs5, hF5, he5⟩ := hF.fr hf5 hw5 (h_kf1 (by decide) (by decide))
      obtain ⟨x4, x41, x42, x43⟩ := h_en_of hD5 hF5.1 (bv := [.ref am]) rfl (hpo.2 _ (List.mem_singleton.mpr rfl))
      have x42 : 2147483649 ≤ q_qb x4 := x42
      have en5 : h_en fs5 := by
        obtain ⟨e0, e1, e2⟩ := hee
        refine ⟨e0, ?_, e2⟩
        rw [he5 7 (fun q => ?_)]
        · exact e1
        · obtain ⟨e, a1, a2, a3, a4⟩ := z_kw_iff.mp q
          rcases List.mem_singleton.mp a1 with rfl
          have a4 : 2147483648 + 7 ≤ 2147483653 := a4
          omega
      exact s147 ws5 ts5 fs5 b1 bn bb c0 bf hF5 en5 hbn hbb hc0 (Or.inl ⟨x4, x41, fun e => by rw [e, z_qb0] at x42; omega⟩)
    have s126 : (bn = 1 ∨ (u < 60 ∧ ∃ ur, fs[39]? = some (.int (nI ur)) ∧ ur < 30)) → Y X 0 126 [some (.ref am), some (.int (nI b1)), some (.int (nI bn)), some (.int (nI bb)), some (.int (nI c0)), some (.int (nI bf)), none] [] ws ts := by
      intro hA
      have s134 : Y X 0 134 [some (.ref am), some (.int (nI b1)), some (.int (nI bn)), some (.int (nI bb)), some (.int (nI c0)), some (.int (nI bf)), none] [] ws ts := by
        refine y_aln hC (E 70 _ rfl) rfl ?_
        refine y_get hcl hC (E 71 _ rfl) hF.1.1 f37 ?_
        refine y_bp hC (E 72 _ rfl) ?_
        refine y_cmp hC (E 73 _ rfl) (fun hx => ?_) (fun _ => bad)
        refine s147 ws ts fs b1 bn bb c0 bf hF hee hbn hbb hc0 (Or.inr ⟨hA, Or.inr ?_⟩)
        have : ¬ wi = 7 := fun e => by
          have hx : ¬ nI wi = nI 7 := hx
          rw [e] at hx
          exact hx rfl
        omega
      refine y_iln hC (E 66 _ rfl) rfl ?_
      refine y_if hC (E 67 _ rfl) (fun _ => s134) (fun hx => ?_)
      have q : bn = 0 := by
        rcases h_nI01 hbn with ⟨_, q⟩ | ⟨q, _⟩
        · exact q
        · exact absurd hx q
      refine y_iln hC (E 68 _ rfl) rfl ?_
      refine y_if hC (E 69 _ rfl) (fun hy => ?_) (fun _ => s134)
      have q2 : bb = 0 := by
        rcases h_nI01 hbb with ⟨_, q⟩ | ⟨q, _⟩
        · exact q
        · exact absurd hy q
      exact s147 ws ts fs b1 bn bb c0 bf hF hee hbn hbb hc0 (Or.inr ⟨hA, Or.inl ⟨q, q2⟩⟩)
    have s121 : Y X 0 121 [some (.ref am), some (.int (nI b1)), some (.int (nI bn)), some (.int (nI bb)), some (.int (nI c0)), some (.int (nI bf)), none] [] ws ts := by
      refine y_il hC (E 64 _ rfl) rfl ?_
      refine y_if hC (E 65 _ rfl) (fun _ => bad) (fun hx => ?_)
      refine s126 (Or.inr (hful ?_))
      rcases h_nI01 hbf with ⟨_, q⟩ | ⟨q, _⟩
      · exact q
      · exact absurd hx q
    refine y_iln hC (E 54 _ rfl) rfl ?_
    refine y_if hC (E 55 _ rfl) (fun hx => ?_) (fun _ => ?_)
    · refine s126 (Or.inl ?_)
      rcases h_nI01 hbn with ⟨q, _⟩ | ⟨_, q⟩
      · exact absurd q hx
      · exact q
    refine y_il hC (E 56 _ rfl) rfl ?_
    refine y_if hC (E 57 _ rfl) (fun _ => s121) (fun _ => ?_)
    refine y_ty (fun tys hw hD => ?_)
    rw [htt] at hw
    obtain ⟨o2, o3⟩ := h_objt hw hF.1.1 hF.1.2.1
    obtain ⟨x8, x81, -⟩ := h_fi o2 o3 (k := 8) (lo := 2147483648) (hi := 2147483653) (by decide) rfl
    refine y_aln hC (E 58 _ rfl) rfl ?_
    refine y_get hcl hC (E 59 _ rfl) hF.1.1 x81 ?_
    refine y_ic hC (E 60 _ rfl) ?_
    refine y_cmp hC (E 61 _ rfl) (fun _ => s121) (fun _ => ?_)
    refine y_iln hC (E 62 _ rfl) rfl ?_
    refine y_if hC (E 63 _ rfl) (fun _ => bad) (fun _ => s121)
  -- bracket, word, full
  have s57 : ∀ (ws : va_W) (ts : List Nat) (fs : List Value) (b1 bn : Nat) (o3 o4 o5 : Option Value), h_pF ws ts jm am rb p0 1 u pi wi fs → h_en fs → bn < 2 → Y X 0 57 [some (.ref am), some (.int (nI b1)), some (.int (nI bn)), o3, o4, o5, none] [] ws ts := by
    intro ws ts fs b1 bn o3 o4 o5 hF hee hbn
    refine y_tyJ hC (fun tys hw hD hJ0 _ => ?_)
    rw [htt] at hw
    obtain ⟨tk, at0, sz, ft, hsee⟩ := h_see_of hw hF.1
    refine y_aln hC (E 32 _ rfl) rfl ?_
    refine y_bp hC (E 33 _ rfl) ?_
    refine y_virq hok hC (E 34 _ rfl) (by decide) (As := [.int (nI 40)]) (rv := []) (by rw [htt]; exact h_m_signhere hok hcl hF.1 hsee (nI 40)) hF.1.1 rfl rfl (dp 2 (by decide)) hn h_cat0 ?_
    have hsl := h_sh_lt tk at0 sz ft (nI 40)
    generalize h_sh tk at0 sz ft (nI 40) = bb at hsl
    refine y_isn hC (E 35 _ rfl) ?_
    refine y_aln hC (E 36 _ rfl) rfl ?_
    refine y_vir hok hC (E 37 _ rfl) (by decide) (As := []) (rv := []) (dd := (1, 0)) (kc := []) (hWh2 _ _ [.ref am] [.ref am] ⟨h_ta_m hF.1, trivial⟩ rfl hJ0) hF.1.1 rfl rfl (dp 2 (by decide)) hn h_cat0 h_nk (fun v ws1 ts1 hf1 hpo => ?_)
    obtain ⟨c0, hc0, rfl⟩ := h_wlr hpo
    refine y_ty (fun tys1 hw1 hD1 => ?_)
    rw [htt] at hw1
    obtain ⟨fs1, hF1, he1⟩ := hF.fr hf1 hw1 kf0
    have efs : fs1 = fs := List.ext_getElem? (fun k => he1 k (h_nwr _ _))
    subst efs
    obtain ⟨hb, s, eW, eS, fk, fn, fu, cd, ur, f35, f36, f37, f38, ⟨f39, f39b⟩, ⟨r1, r2⟩, ⟨r3, r4⟩, ⟨r5, r6⟩, hp⟩ := id hF1
    obtain ⟨ju, au, cU, gu, t1, t2⟩ := id r5
    have hu60 := hp.2.2.2.2.2.2.1
    show Y X 0 68 [some (.ref am), some (.int (nI b1)), some (.int (nI bn)), some (.int (nI bb)), o4, o5, none] [.int (nI c0)] ws1 ts1
    refine y_is hC (E 38 _ rfl) ?_
    have s98 : ∀ bf, bf < 2 → (bf = 0 → u < 60 ∧ ∃ ur, fs1[39]? = some (.int (nI ur)) ∧ ur < 30) → Y X 0 98 [some (.ref am), some (.int (nI b1)), some (.int (nI bn)), some (.int (nI bb)), some (.int (nI c0)), o5, none] [.int (nI bf)] ws1 ts1 := by
      intro bf h1 h2
      refine y_is hC (E 53 _ rfl) ?_
      exact s100 ws1 ts1 fs1 b1 bn bb c0 bf hF1 hee hbn hsl hc0 h1 h2
    have full : Y X 0 93 [some (.ref am), some (.int (nI b1)), some (.int (nI bn)), some (.int (nI bb)), some (.int (nI c0)), o5, none] [] ws1 ts1 := by
      refine y_ic hC (E 50 _ rfl) ?_
      refine y_go hC (E 51 _ rfl) ?_
      exact s98 1 (by decide) (fun h => absurd h (by decide))
    refine y_aln hC (E 39 _ rfl) rfl ?_
    refine y_get hcl hC (E 40 _ rfl) hb.1 t1.1 ?_
    refine y_aln hC (E 41 _ rfl) rfl ?_
    refine y_get hcl hC (E 42 _ rfl) hb.1 f35 ?_
    refine y_ald hC (E 43 _ rfl) t1.2.1 t1.2.2 h46 hrb (by decide) ?_
    rw [t2 rb hrb, r6]
    refine y_bp hC (E 44 _ rfl) ?_
    refine y_cmp hC (E 45 _ rfl) (fun _ => full) (fun hx => ?_)
    refine y_aln hC (E 46 _ rfl) rfl ?_
    refine y_get hcl hC (E 47 _ rfl) hb.1 f39 ?_
    refine y_bp hC (E 48 _ rfl) ?_
    refine y_cmp hC (E 49 _ rfl) (fun hy => ?_) (fun _ => full)
    refine y_ic hC (E 52 _ rfl) ?_
    refine s98 0 (by decide) (fun _ => ⟨?_, ur, f39, ?_⟩)
    · have : ¬ u = 60 := fun e => by
        have hx : ¬ nI u = nI 60 := hx
        rw [e] at hx
        exact hx rfl
      omega
    · have : ¬ ur = 30 := fun e => by
        have hy : ¬ nI ur = nI 30 := hy
        rw [e] at hy
        exact hy rfl
      omega
  -- not
  have s36 : ∀ b1, b1 < 2 → Y X 0 36 [some (.ref am), none, none, none, none, none, none] [.int (nI b1)] ws ts := by
    intro b1 hb1
    refine y_isn hC (E 21 _ rfl) ?_
    refine y_iln hC (E 22 _ rfl) rfl ?_
    refine y_if hC (E 23 _ rfl) (fun _ => ?_) (fun _ => ?_)
    · refine y_ic hC (E 30 _ rfl) ?_
      refine y_isn hC (E 31 _ rfl) ?_
      exact s57 ws ts fs b1 0 none none none h hen (by decide)
    · refine y_tyJ hC (fun tys hw hD hJ0 _ => ?_)
      refine y_aln hC (E 24 _ rfl) rfl ?_
      refine y_l2 hC (E 25 _ rfl) (by decide) ?_
      refine y_vir hok hC (E 26 _ rfl) (by decide) (As := [.long (z_lcv 18)]) (rv := []) (dd := (0, 0)) (kc := []) (hW2 _ _ [.ref am, .long (z_lcv 18)] _ ⟨h_ta_m h.1, Or.inr (Or.inr (Or.inr ⟨rfl, _, rfl⟩)), trivial⟩ rfl hJ0) h.1.1 rfl rfl (dp 1 (by decide)) hn h_cat0 h_nk (fun v ws1 ts1 hf1 hpo => ?_)
      obtain ⟨kk, hkk, rfl⟩ := h_wordr hpo
      refine y_ty (fun tys1 hw1 hD1 => ?_)
      rw [htt] at hw1
      obtain ⟨fs1, hF1, he1⟩ := h.fr hf1 hw1 kf0
      have efs : fs1 = fs := List.ext_getElem? (fun k => he1 k (h_nwr _ _))
      subst efs
      show Y X 0 48 [some (.ref am), some (.int (nI b1)), none, none, none, none, none] [.int (nI kk)] ws1 ts1
      refine y_if hC (E 27 _ rfl) (fun _ => ?_) (fun _ => ?_)
      · refine y_ic hC (E 30 _ rfl) ?_
        refine y_isn hC (E 31 _ rfl) ?_
        exact s57 ws1 ts1 fs1 b1 0 none none none hF1 hen (by decide)
      · refine y_ic hC (E 28 _ rfl) ?_
        refine y_go hC (E 29 _ rfl) ?_
        refine y_isn hC (E 31 _ rfl) ?_
        exact s57 ws1 ts1 fs1 b1 1 none none none hF1 hen (by decide)
  obtain ⟨hb, s, eW, eS, fk, fn, fu, cd, ur, f35, f36, f37, f38, -, ⟨r1, -⟩, -, -, hp⟩ := id h
  have hbnd := hp.bnd
  obtain ⟨je, ae, cE, g, q1, q2⟩ := id r1
  obtain ⟨pk, rfl⟩ : ∃ pk, pi = pk + 1 := ⟨pi - 1, by omega⟩
  show Y X 0 0 [some (.ref am), none, none, none, none, none, none] [] ws ts
  refine y_aln hC (E 0 _ rfl) rfl ?_
  refine y_get hcl hC (E 1 _ rfl) hb.1 q1.1 ?_
  refine y_aln hC (E 2 _ rfl) rfl ?_
  refine y_get hcl hC (E 3 _ rfl) hb.1 f38 ?_
  refine y_ic hC (E 4 _ rfl) ?_
  refine y_sub hC (E 5 _ rfl) ?_
  rw [show nI (pk + 1) - nI 1 = nI pk from nI_pred pk]
  refine y_ald hC (E 6 _ rfl) q1.2.1 q1.2.2 h63 (show pk < 90 by omega) (by decide) ?_
  refine y_ic hC (E 7 _ rfl) ?_
  have yes : Y X 0 31 [some (.ref am), none, none, none, none, none, none] [] ws ts := by
    refine y_ic hC (E 18 _ rfl) ?_
    refine y_go hC (E 19 _ rfl) ?_
    exact s36 1 (by decide)
  refine y_cmp hC (E 8 _ rfl) (fun _ => yes) (fun _ => ?_)
  refine y_aln hC (E 9 _ rfl) rfl ?_
  refine y_get hcl hC (E 10 _ rfl) hb.1 q1.1 ?_
  refine y_aln hC (E 11 _ rfl) rfl ?_
  refine y_get hcl hC (E 12 _ rfl) hb.1 f38 ?_
  refine y_ic hC (E 13 _ rfl) ?_
  refine y_sub hC (E 14 _ rfl) ?_
  rw [show nI (pk + 1) - nI 1 = nI pk from nI_pred pk]
  refine y_ald hC (E 15 _ rfl) q1.2.1 q1.2.2 h63 (show pk < 90 by omega) (by decide) ?_
  refine y_bp hC (E 16 _ rfl) ?_
  refine y_cmp hC (E 17 _ rfl) (fun _ => ?_) (fun _ => yes)
  refine y_ic hC (E 20 _ rfl) ?_
  exact s36 0 (by decide)
end HY
