/-! ===== by hand: rankHere, emit, pushE ===== -/
def h_Mword : z_M := (259, [(1, 40, 0), (3, 0, 0)], [], [], 0, 0, true, [(0, 2147483648, 2147483648), (0, 2147483649, 2147483649)], [])
def h_isop (x : Int32) : Prop := ¬ x = nI 126 ∧ h_let x = 0
section HF
variable {ws ws' : va_W} {ts ts' : List Nat} {tys : List (ClassId × FieldType)}
theorem h_ob.fr0 (hf : z_Fr [] ws ts ws' ts') (hw : z_W z_tt ws' tys ts') {jm am : Nat} {fs : List Value} (h : h_ob ws ts jm am fs) : h_ob ws' ts' jm am fs := by
  obtain ⟨h1, h2⟩ := h_fr_obj hf hw h.1 h.2.1 h.2.2
  exact ⟨h1, h2, h.2.2⟩
theorem h_rw.fr0 (hf : z_Fr [] ws ts ws' ts') (hw : z_W z_tt ws' tys ts') {fs : List Value} {k t n : Nat} {f : Nat → Int32} (h : h_rw ws ts fs k t n f) (ht : (z_tt t).1 = 1 ∨ (z_tt t).1 = 3 ∨ (z_tt t).1 = 5) (hn : (z_tt t).2.1 = n) : h_rw ws' ts' fs k t n f := h.fr hf hw rfl ht hn (fun _ _ => h_nwr _ _)
theorem h_see.fr0 (hf : z_Fr [] ws ts ws' ts') (hw : z_W z_tt ws' tys ts') {fs : List Value} {tk : Int32} {at0 sz : Nat} {ft : Nat → Int32} (h : h_see ws ts fs tk at0 sz ft) : h_see ws' ts' fs tk at0 sz ft := ⟨h.1, h.2.1, h.2.2.1, h.2.2.2.1, h.2.2.2.2.1, h.2.2.2.2.2.fr0 hf hw (Or.inr (Or.inl rfl)) rfl⟩
end HF
theorem h_sh1 {tk : Int32} {at0 sz : Nat} {ft : Nat → Int32} {c : Int32} (h : ¬ nI (h_sh tk at0 sz ft c) = 0) : h_sg at0 sz ft = c := by
  unfold h_sh at h
  split at h
  · rename_i q
    exact q.2
  · exact absurd nI_0 h
section HY
variable {l : Launch} {base : Nat} {D : va_G} {sa : Nat → Nat} {J : va_W → List Nat → Prop} {ws : va_W} {ts : List Nat}
theorem h_wordr {v : Option Value} {ws' : va_W} {ts' : List Nat} {bv : List Value} (h : z_CP h_Mword bv v ws' ts') : ∃ k, k < 2 ∧ v = some (.int (nI k)) := by
  have h1 := h.1
  rw [if_pos (show h_Mword.2.2.2.2.2.2.1 = true from rfl)] at h1
  obtain ⟨t, t1, r0, rfl, t2⟩ := h1
  have t1 : t ∈ [((0, 2147483648, 2147483648) : z_C), (0, 2147483649, 2147483649)] := t1
  rcases List.mem_cons.mp t1 with rfl | t1
  · obtain ⟨x, rfl, x1, x2⟩ := h_tvi t2
    have e : x = nI 0 := h_qn (by decide) (by omega)
    exact ⟨0, by decide, by rw [e]⟩
  · rcases List.mem_singleton.mp t1 with rfl
    obtain ⟨x, rfl, x1, x2⟩ := h_tvi t2
    have e : x = nI 1 := h_qn (by decide) (by omega)
    exact ⟨1, by decide, by rw [e]⟩
/-- what rankHere answers -/
def h_prk (x : Int32) : Option Value → va_W → List Nat → Prop := fun v _ _ => ∃ r, r ≤ 6 ∧ ¬ r = 3 ∧ v = some (.int (nI r)) ∧ (4 ≤ r → h_isop x)
theorem h_m_rank (hok : ∀ i, i < q_nM → q_mok i) (hcl : q_clok) (hJ : ∀ ws' ts', z_Fr [] ws ts ws' ts' → J ws' ts') (hW : z_Con l base D sa z_tt J h_Mword) {jm am at0 sz : Nat} {fs : List Value} {ft : Nat → Int32} {tk : Int32} (hb : h_ob ws ts jm am fs) (hs : h_see ws ts fs tk at0 sz ft) : z_Met l base D sa z_tt [] (2, 0) 266 [.ref am] ws ts (h_prk (h_sg at0 sz ft)) := by
  refine y_meth (J := J) (hok 266 (by decide)) (fun v hv => by rcases List.mem_singleton.mp hv with rfl; rfl) (show 1 ≤ 1 by decide) hJ ?_
  intro p e s m below meth c9 X hX hC hQ
  have hi : y_i X = 266 := by rw [hX]
  have htt : y_tt X = z_tt := by rw [hX]
  have hd : y_d X = (2, 0) := by rw [hX]
  have hW2 : z_Con (y_l X) (y_b X) (y_D X) (y_sa X) (y_tt X) (y_J X) h_Mword := by rw [hX]; exact hW
  clear hX
  have E := y_Ei hok hi (by decide) (cd := q_cd266) rfl
  have hn : (0 : Nat) ≤ (y_d X).2 := Nat.zero_le _
  show Y X 0 0 [some (.ref am)] [] ws ts
  refine y_aln hC (E 0 _ rfl) rfl ?_
  refine y_l2 hC (E 1 _ rfl) (by decide) ?_
  refine y_tyJ hC (fun tys hw hD hJ0 _ => ?_)
  refine y_vir hok hC (E 2 _ rfl) (by decide) (As := [.long (z_lcv 17)]) (rv := []) (dd := (0, 0)) (kc := []) (hW2 _ _ [.ref am, .long (z_lcv 17)] _ ⟨Or.inr (Or.inl ⟨rfl, jm, am, rfl, h_ad hb.1, hb.2.1⟩), Or.inr (Or.inr (Or.inr ⟨rfl, _, rfl⟩)), trivial⟩ rfl hJ0) hb.1 rfl rfl (by rw [hd]; decide) hn h_cat0 h_nk (fun v ws9 ts9 hfr hpo => ?_)
  obtain ⟨kk, hkk, rfl⟩ := h_wordr hpo
  refine y_ty (fun tys9 hw9 _ => ?_)
  rw [htt] at hw9
  replace hb := hb.fr0 hfr hw9
  replace hs := hs.fr0 hfr hw9
  clear hfr hpo hw hD hJ0 hw9 tys9 tys
  refine y_if hC (E 3 _ rfl) (fun _ => ?_) (fun _ => by
    refine y_ic hC (E 4 _ rfl) ?_
    exact y_ir hC hQ (E 5 _ rfl) hn ⟨2, by decide, by decide, rfl, fun h => absurd h (by decide)⟩)
  refine y_aln hC (E 6 _ rfl) rfl ?_
  refine y_l2 hC (E 7 _ rfl) (by decide) ?_
  refine y_tyJ hC (fun tys hw hD hJ0 _ => ?_)
  refine y_vir hok hC (E 8 _ rfl) (by decide) (As := [.long (z_lcv 16)]) (rv := []) (dd := (0, 0)) (kc := []) (hW2 _ _ [.ref am, .long (z_lcv 16)] _ ⟨Or.inr (Or.inl ⟨rfl, jm, am, rfl, h_ad hb.1, hb.2.1⟩), Or.inr (Or.inr (Or.inr ⟨rfl, _, rfl⟩)), trivial⟩ rfl hJ0) hb.1 rfl rfl (by rw [hd]; decide) hn h_cat0 h_nk (fun v wsB tsB hfr hpo => ?_)
  obtain ⟨kk, hkk, rfl⟩ := h_wordr hpo
  refine y_ty (fun tys9 hw9 _ => ?_)
  rw [htt] at hw9
  replace hb := hb.fr0 hfr hw9
  replace hs := hs.fr0 hfr hw9
  clear hfr hpo hw hD hJ0 hw9 tys9 tys
  refine y_if hC (E 9 _ rfl) (fun _ => ?_) (fun _ => by
    refine y_ic hC (E 10 _ rfl) ?_
    exact y_ir hC hQ (E 11 _ rfl) hn ⟨1, by decide, by decide, rfl, fun h => absurd h (by decide)⟩)
  have r4 : h_isop (h_sg at0 sz ft) → Y X 0 51 [some (.ref am)] [] wsB tsB := fun h => by
    refine y_ic hC (E 24 _ rfl) ?_
    exact y_ir hC hQ (E 25 _ rfl) hn ⟨4, by decide, by decide, rfl, fun _ => h⟩
  have r5 : h_isop (h_sg at0 sz ft) → Y X 0 71 [some (.ref am)] [] wsB tsB := fun h => by
    refine y_ic hC (E 34 _ rfl) ?_
    exact y_ir hC hQ (E 35 _ rfl) hn ⟨5, by decide, by decide, rfl, fun _ => h⟩
  have r6 : h_isop (h_sg at0 sz ft) → Y X 0 100 [some (.ref am)] [] wsB tsB := fun h => by
    refine y_bp hC (E 48 _ rfl) ?_
    refine y_go hC (E 49 _ rfl) ?_
    exact y_ir hC hQ (E 51 _ rfl) hn ⟨6, by decide, by decide, rfl, fun _ => h⟩
  refine y_aln hC (E 12 _ rfl) rfl ?_
  refine y_bp hC (E 13 _ rfl) ?_
  refine y_virq hok hC (E 14 _ rfl) (by decide) (As := [.int (nI 60)]) (rv := []) (by rw [htt]; exact h_m_signhere hok hcl hb hs (nI 60)) hb.1 rfl rfl (by rw [hd]; decide) hn h_cat0 ?_
  refine y_if hC (E 15 _ rfl) (fun h => r4 (by rw [h_sh1 h]; exact ⟨by decide, by decide⟩)) (fun _ => ?_)
  refine y_aln hC (E 16 _ rfl) rfl ?_
  refine y_bp hC (E 17 _ rfl) ?_
  refine y_virq hok hC (E 18 _ rfl) (by decide) (As := [.int (nI 62)]) (rv := []) (by rw [htt]; exact h_m_signhere hok hcl hb hs (nI 62)) hb.1 rfl rfl (by rw [hd]; decide) hn h_cat0 ?_
  refine y_if hC (E 19 _ rfl) (fun h => r4 (by rw [h_sh1 h]; exact ⟨by decide, by decide⟩)) (fun _ => ?_)
  refine y_aln hC (E 20 _ rfl) rfl ?_
  refine y_bp hC (E 21 _ rfl) ?_
  refine y_virq hok hC (E 22 _ rfl) (by decide) (As := [.int (nI 61)]) (rv := []) (by rw [htt]; exact h_m_signhere hok hcl hb hs (nI 61)) hb.1 rfl rfl (by rw [hd]; decide) hn h_cat0 ?_
  refine y_if hC (E 23 _ rfl) (fun _ => ?_) (fun h => r4 (by rw [h_sh1 h]; exact ⟨by decide, by decide⟩))
  refine y_aln hC (E 26 _ rfl) rfl ?_
  refine y_bp hC (E 27 _ rfl) ?_
  refine y_virq hok hC (E 28 _ rfl) (by decide) (As := [.int (nI 43)]) (rv := []) (by rw [htt]; exact h_m_signhere hok hcl hb hs (nI 43)) hb.1 rfl rfl (by rw [hd]; decide) hn h_cat0 ?_
  refine y_if hC (E 29 _ rfl) (fun h => r5 (by rw [h_sh1 h]; exact ⟨by decide, by decide⟩)) (fun _ => ?_)
  refine y_aln hC (E 30 _ rfl) rfl ?_
  refine y_bp hC (E 31 _ rfl) ?_
  refine y_virq hok hC (E 32 _ rfl) (by decide) (As := [.int (nI 45)]) (rv := []) (by rw [htt]; exact h_m_signhere hok hcl hb hs (nI 45)) hb.1 rfl rfl (by rw [hd]; decide) hn h_cat0 ?_
  refine y_if hC (E 33 _ rfl) (fun _ => ?_) (fun h => r5 (by rw [h_sh1 h]; exact ⟨by decide, by decide⟩))
  refine y_aln hC (E 36 _ rfl) rfl ?_
  refine y_bp hC (E 37 _ rfl) ?_
  refine y_virq hok hC (E 38 _ rfl) (by decide) (As := [.int (nI 42)]) (rv := []) (by rw [htt]; exact h_m_signhere hok hcl hb hs (nI 42)) hb.1 rfl rfl (by rw [hd]; decide) hn h_cat0 ?_
  refine y_if hC (E 39 _ rfl) (fun h => r6 (by rw [h_sh1 h]; exact ⟨by decide, by decide⟩)) (fun _ => ?_)
  refine y_aln hC (E 40 _ rfl) rfl ?_
  refine y_bp hC (E 41 _ rfl) ?_
  refine y_virq hok hC (E 42 _ rfl) (by decide) (As := [.int (nI 47)]) (rv := []) (by rw [htt]; exact h_m_signhere hok hcl hb hs (nI 47)) hb.1 rfl rfl (by rw [hd]; decide) hn h_cat0 ?_
  refine y_if hC (E 43 _ rfl) (fun h => r6 (by rw [h_sh1 h]; exact ⟨by decide, by decide⟩)) (fun _ => ?_)
  refine y_aln hC (E 44 _ rfl) rfl ?_
  refine y_bp hC (E 45 _ rfl) ?_
  refine y_virq hok hC (E 46 _ rfl) (by decide) (As := [.int (nI 37)]) (rv := []) (by rw [htt]; exact h_m_signhere hok hcl hb hs (nI 37)) hb.1 rfl rfl (by rw [hd]; decide) hn h_cat0 ?_
  refine y_if hC (E 47 _ rfl) (fun _ => ?_) (fun h => r6 (by rw [h_sh1 h]; exact ⟨by decide, by decide⟩))
  refine y_ic hC (E 50 _ rfl) ?_
  exact y_ir hC hQ (E 51 _ rfl) hn ⟨0, by decide, by decide, rfl, fun h => absurd h (by decide)⟩
/-- emit and pushE: a number at the end of two rows -/
theorem h_m_emit (hok : ∀ i, i < q_nM → q_mok i) (hcl : q_clok) {jm am cd jk ak jn an : Nat} {fs : List Value} {fk fn : Nat → Int32} {cK cN : ClassId} (hb : h_ob ws ts jm am fs) (h36 : fs[36]? = some (.int (nI cd))) (hcd : cd < 1120) (hk : h_row ws ts fs 29 61 1120 jk ak cK fk) (hr : h_row ws ts fs 30 62 1120 jn an cN fn) (c v : Int32) : z_Met l base D sa z_tt [(61, 2147483648 + cd, 2147483648 + cd), (62, 2147483648 + cd, 2147483648 + cd), (40, 2147483684, 2147483684)] (0, 0) 246 [.ref am, .int c, .int v] ws ts (fun o ws' ts' => o = none ∧ ts' = ts ∧ ws' = ((ws.set jk (ak, .inl (cK, 1120, .inl (upd fk cd c)))).set jn (an, .inl (cN, 1120, .inl (upd fn cd v)))).set jm (am, .inr (9, fs.set 36 (.int (nI (cd + 1)))))) := by
  refine y_meth (J := fun _ _ => True) (hok 246 (by decide)) (fun v hv => by
    rcases List.mem_cons.mp hv with rfl | hv
    · rfl
    rcases List.mem_cons.mp hv with rfl | hv
    · rfl
    rcases List.mem_singleton.mp hv with rfl
    rfl) (show 3 ≤ 3 by decide) (fun _ _ _ => trivial) ?_
  intro p e s m below meth c9 X hX hC hQ
  have hi : y_i X = 246 := by rw [hX]
  have htt : y_tt X = z_tt := by rw [hX]
  have hkw : y_kw X = [(61, 2147483648 + cd, 2147483648 + cd), (62, 2147483648 + cd, 2147483648 + cd), (40, 2147483684, 2147483684)] := by rw [hX]
  clear hX
  have E := y_Ei hok hi (by decide) (cd := q_cd246) rfl
  have hb1 := hb.set (e := (ak, .inl (cK, 1120, .inl (upd fk cd c)))) hk.2.2 (by decide)
  have hr1 := hr.set (e := (ak, .inl (cK, 1120, .inl (upd fk cd c)))) hk.2.2 (by decide)
  have hb2 := hb1.set (e := (an, .inl (cN, 1120, .inl (upd fn cd v)))) hr.2.2 (by decide)
  show Y X 0 0 [some (.ref am), some (.int c), some (.int v)] [] ws ts
  refine y_aln hC (E 0 _ rfl) rfl ?_
  refine y_get hcl hC (E 1 _ rfl) hb.1 hk.1 ?_
  refine y_aln hC (E 2 _ rfl) rfl ?_
  refine y_get hcl hC (E 3 _ rfl) hb.1 h36 ?_
  refine y_iln hC (E 4 _ rfl) rfl ?_
  refine y_ast hC (E 5 _ rfl) hk.2.1 hk.2.2 (by rw [htt]; rfl) hcd (by decide) ?_ (by rw [hkw]; exact h_wrm List.mem_cons_self (Nat.le_refl _) (Nat.le_refl _)) ?_
  · rw [htt]
    show (z_el [(1120, 0, 4294967295)] (cd % 1120)).1 ≤ _ ∧ _ ≤ (z_el [(1120, 0, 4294967295)] (cd % 1120)).2
    rw [h_el25 cd (by decide)]
    exact ⟨Nat.zero_le _, q_qb_hi _⟩
  refine y_aln hC (E 6 _ rfl) rfl ?_
  refine y_get hcl hC (E 7 _ rfl) hb1.1 hr1.1 ?_
  refine y_aln hC (E 8 _ rfl) rfl ?_
  refine y_get hcl hC (E 9 _ rfl) hb1.1 h36 ?_
  refine y_iln hC (E 10 _ rfl) rfl ?_
  refine y_ast hC (E 11 _ rfl) hr1.2.1 hr1.2.2 (by rw [htt]; rfl) hcd (by decide) ?_ (by rw [hkw]; exact h_wrm (List.mem_cons_of_mem _ List.mem_cons_self) (Nat.le_refl _) (Nat.le_refl _)) ?_
  · rw [htt]
    show (z_el [(1120, 0, 4294967295)] (cd % 1120)).1 ≤ _ ∧ _ ≤ (z_el [(1120, 0, 4294967295)] (cd % 1120)).2
    rw [h_el25 cd (by decide)]
    exact ⟨Nat.zero_le _, q_qb_hi _⟩
  refine y_aln hC (E 12 _ rfl) rfl ?_
  refine y_dup hC (E 13 _ rfl) rfl ?_
  refine y_get hcl hC (E 14 _ rfl) hb2.1 h36 ?_
  refine y_ic hC (E 15 _ rfl) ?_
  refine y_add hC (E 16 _ rfl) ?_
  rw [nI_add]
  refine y_put hcl hC (E 17 _ rfl) hb2.1 hb2.2.1 (by rw [htt]; rfl) ?_ (by rw [hb.2.2]; decide) (by rw [hkw]; exact h_wrm (List.mem_cons_of_mem _ (List.mem_cons_of_mem _ List.mem_cons_self)) (by decide) (by decide)) (Or.inl ⟨rfl, _, rfl⟩) ?_
  · rw [htt]
    show z_tv _ ts (0, 2147483648, 2147484768) _
    exact h_tvn (by omega) (by omega) (by omega)
  exact y_vr hC hQ (E 18 _ rfl) (Nat.zero_le _) ⟨rfl, rfl, rfl⟩
theorem h_m_push (hok : ∀ i, i < q_nM → q_mok i) (hcl : q_clok) {jm am pi je ae js as9 w9 : Nat} {fs : List Value} {eW eS : Nat → Int32} {cE cS : ClassId} (hb : h_ob ws ts jm am fs) (h38 : fs[38]? = some (.int (nI pi))) (hpi : pi < 90) (hk : h_row ws ts fs 31 63 90 je ae cE eW) (hr : h_row ws ts fs 32 64 90 js as9 cS eS) (hw9 : w9 ≤ 8) (v : Int32) : z_Met l base D sa z_tt [(63, 2147483648, 2147483737), (64, 2147483648, 2147483737), (40, 2147483686, 2147483686)] (0, 0) 265 [.ref am, .int (nI w9), .int v] ws ts (fun o ws' ts' => o = none ∧ ts' = ts ∧ ws' = ((ws.set je (ae, .inl (cE, 90, .inl (upd eW pi (nI w9))))).set js (as9, .inl (cS, 90, .inl (upd eS pi v)))).set jm (am, .inr (9, fs.set 38 (.int (nI (pi + 1)))))) := by
  refine y_meth (J := fun _ _ => True) (hok 265 (by decide)) (fun v hv => by
    rcases List.mem_cons.mp hv with rfl | hv
    · rfl
    rcases List.mem_cons.mp hv with rfl | hv
    · rfl
    rcases List.mem_singleton.mp hv with rfl
    rfl) (show 3 ≤ 3 by decide) (fun _ _ _ => trivial) ?_
  intro p e s m below meth c9 X hX hC hQ
  have hi : y_i X = 265 := by rw [hX]
  have htt : y_tt X = z_tt := by rw [hX]
  have hkw : y_kw X = [(63, 2147483648, 2147483737), (64, 2147483648, 2147483737), (40, 2147483686, 2147483686)] := by rw [hX]
  clear hX
  have E := y_Ei hok hi (by decide) (cd := q_cd265) rfl
  have hb1 := hb.set (e := (ae, .inl (cE, 90, .inl (upd eW pi (nI w9))))) hk.2.2 (by decide)
  have hr1 := hr.set (e := (ae, .inl (cE, 90, .inl (upd eW pi (nI w9))))) hk.2.2 (by decide)
  have hb2 := hb1.set (e := (as9, .inl (cS, 90, .inl (upd eS pi v)))) hr.2.2 (by decide)
  show Y X 0 0 [some (.ref am), some (.int (nI w9)), some (.int v)] [] ws ts
  refine y_aln hC (E 0 _ rfl) rfl ?_
  refine y_get hcl hC (E 1 _ rfl) hb.1 hk.1 ?_
  refine y_aln hC (E 2 _ rfl) rfl ?_
  refine y_get hcl hC (E 3 _ rfl) hb.1 h38 ?_
  refine y_iln hC (E 4 _ rfl) rfl ?_
  refine y_ast hC (E 5 _ rfl) hk.2.1 hk.2.2 (by rw [htt]; rfl) hpi (by decide) ?_ (by rw [hkw]; exact h_wrm List.mem_cons_self (by omega) (by omega)) ?_
  · rw [htt]
    show (z_el [(90, 2147483648, 2147483656)] (pi % 90)).1 ≤ _ ∧ _ ≤ (z_el [(90, 2147483648, 2147483656)] (pi % 90)).2
    rw [h_el25 pi (by decide), z_qnI (by omega)]
    exact ⟨by omega, by omega⟩
  refine y_aln hC (E 6 _ rfl) rfl ?_
  refine y_get hcl hC (E 7 _ rfl) hb1.1 hr1.1 ?_
  refine y_aln hC (E 8 _ rfl) rfl ?_
  refine y_get hcl hC (E 9 _ rfl) hb1.1 h38 ?_
  refine y_iln hC (E 10 _ rfl) rfl ?_
  refine y_ast hC (E 11 _ rfl) hr1.2.1 hr1.2.2 (by rw [htt]; rfl) hpi (by decide) ?_ (by rw [hkw]; exact h_wrm (List.mem_cons_of_mem _ List.mem_cons_self) (by omega) (by omega)) ?_
  · rw [htt]
    show (z_el [(90, 0, 4294967295)] (pi % 90)).1 ≤ _ ∧ _ ≤ (z_el [(90, 0, 4294967295)] (pi % 90)).2
    rw [h_el25 pi (by decide)]
    exact ⟨Nat.zero_le _, q_qb_hi _⟩
  refine y_aln hC (E 12 _ rfl) rfl ?_
  refine y_dup hC (E 13 _ rfl) rfl ?_
  refine y_get hcl hC (E 14 _ rfl) hb2.1 h38 ?_
  refine y_ic hC (E 15 _ rfl) ?_
  refine y_add hC (E 16 _ rfl) ?_
  rw [nI_add]
  refine y_put hcl hC (E 17 _ rfl) hb2.1 hb2.2.1 (by rw [htt]; rfl) ?_ (by rw [hb.2.2]; decide) (by rw [hkw]; exact h_wrm (List.mem_cons_of_mem _ (List.mem_cons_of_mem _ List.mem_cons_self)) (by decide) (by decide)) (Or.inl ⟨rfl, _, rfl⟩) ?_
  · rw [htt]
    show z_tv _ ts (0, 2147483648, 2147483738) _
    exact h_tvn (by omega) (by omega) (by omega)
  exact y_vr hC hQ (E 18 _ rfl) (Nat.zero_le _) ⟨rfl, rfl, rfl⟩
end HY
