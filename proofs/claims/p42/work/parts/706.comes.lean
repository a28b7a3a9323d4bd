/-! ===== by hand: comes ===== -/
def h_let (c : Int32) : Nat := h_in c (nI 97) (nI 122)
/-- how high the pile is behind m codes from p0 on -/
def h_hs (f : Nat → Int32) (p0 : Nat) : Nat → Option Nat
  | 0 => some 0
  | m + 1 => match h_hs f p0 m with
    | none => none
    | some h => if f (p0 + m) = nI 126 then (if 1 ≤ h then some h else none) else if h_let (f (p0 + m)) = 1 then (if h < 60 then some (h + 1) else none) else (if 2 ≤ h then some (h - 1) else none)
theorem h_hs_le (f : Nat → Int32) (p0 : Nat) : ∀ (m h : Nat), h_hs f p0 m = some h → h ≤ 60
  | 0, h, e => by
    cases e
    decide
  | m + 1, h, e => by
    unfold h_hs at e
    cases hp : h_hs f p0 m with
    | none => rw [hp] at e; cases e
    | some g =>
      rw [hp] at e
      have ih := h_hs_le f p0 m g hp
      have e : (if f (p0 + m) = nI 126 then (if 1 ≤ g then some g else none) else if h_let (f (p0 + m)) = 1 then (if g < 60 then some (g + 1) else none) else (if 2 ≤ g then some (g - 1) else none)) = some h := e
      split at e
      · split at e
        · cases e; exact ih
        · cases e
      · split at e
        · split at e
          · cases e; omega
          · cases e
        · split at e
          · cases e; omega
          · cases e
theorem h_hs_pre (f : Nat → Int32) (p0 : Nat) : ∀ (m k h : Nat), h_hs f p0 m = some h → k ≤ m → ∃ g, h_hs f p0 k = some g
  | 0, k, h, e, hk => by
    have : k = 0 := by omega
    subst this
    exact ⟨_, e⟩
  | m + 1, k, h, e, hk => by
    by_cases ek : k = m + 1
    · subst ek
      exact ⟨_, e⟩
    · cases hp : h_hs f p0 m with
      | none =>
        unfold h_hs at e
        rw [hp] at e
        cases e
      | some g => exact h_hs_pre f p0 m k g hp (by omega)
theorem h_pf_split {ws : va_W} {ts : List Nat} {c : List (Nat × Nat × z_C)} {out : List Value} : ∀ {ps : List (Nat × Nat × z_C)} {bv : List Value}, z_Pf ws ts (ps ++ c) bv out → ∃ mid, z_Pf ws ts ps bv mid ∧ z_Pf ws ts c mid out
  | [], bv, h => ⟨bv, rfl, h⟩
  | q :: ps, bv, h => by
    obtain ⟨a, j, e, r, h1, h2, h3, h4, h5⟩ := h
    obtain ⟨mid, g1, g2⟩ := h_pf_split h5
    exact ⟨mid, ⟨a, j, e, r, h1, h2, h3, h4, g1⟩, g2⟩
/-- the code of the tide is whole -/
def h_codeJ (ws : va_W) (ts : List Nat) : Prop := ∀ (jm am b : Nat) (fs : List Value) (fc fr fk fa fb ft : Nat → Int32) (jk ak ja aa jb ab jt at9 : Nat) (cK cA cB cT : ClassId), h_bd ws ts jm am fs b fc fr → h_row ws ts fs 29 61 1120 jk ak cK fk → h_row ws ts fs 23 55 2 ja aa cA fa → h_row ws ts fs 24 56 2 jb ab cB fb → h_row ws ts fs 25 57 2 jt at9 cT ft → ft b = nI 1 → ∃ p0 p1 h, fa b = nI p0 ∧ fb b = nI p1 ∧ p0 ≤ p1 ∧ p1 ≤ 1120 ∧ h_hs fk p0 (p1 - p0) = some h
def h_Mask (b : Nat) : z_M := (241, [(1, 40, 0), (0, 0, 4294967295), (0, 0, 4294967295)], h_bf 3 b, [], 0, 0, true, [(0, 0, 4294967295)], [])
def h_Mtwo : z_M := (274, [(0, 0, 4294967295), (0, 0, 4294967295), (0, 0, 4294967295)], [], [], 0, 0, true, [(0, 0, 4294967295)], [])
def h_kcom : List z_C := [(65, 2147483648, 2147483707)]
def h_Mcom (b : Nat) : z_M := (244, [(1, 40, 0)], h_bf 1 b ++ [(0, 25, (1, 57, 0)), (4, b, (0, 2147483649, 2147483649))], h_kcom, 0, 3, true, [(0, 0, 4294967295)], [])
section HS
variable {l : Launch} {base : Nat} {D : va_G} {sa : Nat → Nat} {ws : va_W} {ts : List Nat}
theorem h_m_letter (hok : ∀ i, i < q_nM → q_mok i) (v : Int32) : z_Met l base D sa z_tt [] (0, 0) 256 [.int v] ws ts (h_pu ws ts (nI (h_let v))) := by
  refine y_meth (J := fun _ _ => True) (hok 256 (by decide)) (fun v hv => by rcases List.mem_singleton.mp hv with rfl; rfl) (show 1 ≤ 1 by decide) (fun _ _ _ => trivial) ?_
  intro p e s m below meth c X hX hC hQ
  have hi0 : y_i X = 256 := by rw [hX]
  clear hX
  have E := y_Ei hok hi0 (by decide) (cd := q_cd256) rfl
  show Y X 0 0 [some (.int v)] [] ws ts
  refine y_iln hC (E 0 _ rfl) rfl ?_
  refine y_bp hC (E 1 _ rfl) ?_
  refine y_cmp hC (E 2 _ rfl) (fun h => ?_) (fun h => ?_)
  · have h : v < nI 97 := h
    refine y_ic hC (E 8 _ rfl) ?_
    exact y_zr hC hQ (E 9 _ rfl) (Nat.zero_le _) (by decide) ⟨rfl, rfl, by rw [h_let, h_in, if_neg (fun q => absurd h (Int32.not_lt.mpr q.1))]⟩
  · have h : nI 97 ≤ v := h
    refine y_iln hC (E 3 _ rfl) rfl ?_
    refine y_bp hC (E 4 _ rfl) ?_
    refine y_cmp hC (E 5 _ rfl) (fun g => ?_) (fun g => ?_)
    · have g : nI 122 < v := g
      refine y_ic hC (E 8 _ rfl) ?_
      exact y_zr hC hQ (E 9 _ rfl) (Nat.zero_le _) (by decide) ⟨rfl, rfl, by rw [h_let, h_in, if_neg (fun q => absurd g (Int32.not_lt.mpr q.2))]⟩
    · have g : v ≤ nI 122 := g
      refine y_ic hC (E 6 _ rfl) ?_
      refine y_go hC (E 7 _ rfl) ?_
      exact y_zr hC hQ (E 9 _ rfl) (Nat.zero_le _) (by decide) ⟨rfl, rfl, by rw [h_let, h_in, if_pos ⟨h, g⟩]⟩
end HS
/-- the state between comes' steps -/
def h_cm (ws : va_W) (ts : List Nat) (jm am b p1 : Nat) (fk : Nat → Int32) : Prop := ∃ (fs : List Value) (fc fr g fb fl fn : Nat → Int32) (jk ak jb ab jl al jn an : Nat) (cK cB cL cN : ClassId), h_bd ws ts jm am fs b fc fr ∧ fs.length = 68 ∧ 2147483650 ≤ q_qb (fc b) ∧ q_qb (fc b) ≤ 2147483653 ∧ (h_row ws ts fs 29 61 1120 jk ak cK g ∧ ∀ k, k < 1120 → g k = fk k) ∧ (h_row ws ts fs 24 56 2 jb ab cB fb ∧ fb b = nI p1) ∧ h_row ws ts fs 33 65 60 jl al cL fl ∧ h_row ws ts fs 30 62 1120 jn an cN fn
theorem h_cm.fr {ws ws' : va_W} {ts ts' : List Nat} {tys : List (ClassId × FieldType)} {jm am b p1 : Nat} {fk : Nat → Int32} (hf : z_Fr [] ws ts ws' ts') (hw : z_W z_tt ws' tys ts') (h : h_cm ws ts jm am b p1 fk) : h_cm ws' ts' jm am b p1 fk := by
  obtain ⟨fs, fc, fr, g, fb, fl, fn, jk, ak, jb, ab, jl, al, jn, an, cK, cB, cL, cN, h1, h2, h3, h4, ⟨h5, h6⟩, ⟨h7, h8⟩, h9, h10⟩ := h
  obtain ⟨fc', fr', b1, b2, -⟩ := h1.fr hf hw h2
  obtain ⟨cK', g', k1, k2⟩ := h5.fr hf hw rfl rfl
  obtain ⟨cB', fb', k3, k4⟩ := h7.fr hf hw rfl rfl
  obtain ⟨cL', fl', k5, -⟩ := h9.fr hf hw rfl rfl
  obtain ⟨cN', fn', k6, -⟩ := h10.fr hf hw rfl rfl
  exact ⟨fs, fc', fr', g', fb', fl', fn', jk, ak, jb, ab, jl, al, jn, an, cK', cB', cL', cN', b1, h2, by rw [b2]; exact h3, by rw [b2]; exact h4, ⟨k1, fun k hk => (k2 k hk).trans (h6 k hk)⟩, ⟨k3, (k4 b h1.2.2.2.1).trans h8⟩, k5, k6⟩
section HC
variable {X : y_X} {jm am b : Nat} {post : Option Value → va_W → List Nat → Prop}
theorem h_cm_loop (hok : ∀ i, i < q_nM → q_mok i) (hcl : q_clok) (hC : y_C X) (htt : y_tt X = z_tt) (hi : y_i X = 244) (hd : y_d X = (3, 0)) (hkw : y_kw X = h_kcom) (hA : z_Con (y_l X) (y_b X) (y_D X) (y_sa X) (y_tt X) (y_J X) (h_Mask b)) (hT : z_Con (y_l X) (y_b X) (y_D X) (y_sa X) (y_tt X) (y_J X) h_Mtwo) (hQ : y_end X post) (hp : ∀ ws ts x, post (some (.int x)) ws ts) {p0 p1 hh : Nat} {fk : Nat → Int32} (hp1 : p1 ≤ 1120) (hok9 : h_hs fk p0 (p1 - p0) = some hh) : ∀ (m k h : Nat) (ws : va_W) (ts : List Nat) (o3 : Option Value), p1 - k = m → p0 ≤ k → k ≤ p1 → h_cm ws ts jm am b p1 fk → h_hs fk p0 (k - p0) = some h → Y X 0 12 [some (.ref am), some (.int (nI h)), some (.int (nI k)), o3] [] ws ts := by
  have E := y_Ei hok hi (by decide) (cd := q_cd244) rfl
  have hn : (0 : Nat) ≤ (y_d X).2 := Nat.zero_le _
  have h56 : (y_tt X 56).1 = 1 := by rw [htt]; rfl
  have h61 : (y_tt X 61).1 = 1 := by rw [htt]; rfl
  have h62 : (y_tt X 62).1 = 1 := by rw [htt]; rfl
  have h65 : (y_tt X 65).1 = 1 := by rw [htt]; rfl
  have hst : ∀ q, q < 60 → z_wr (y_kw X) 65 q := fun q hq => by rw [hkw]; exact h_wrm (lo := 2147483648) (hi := 2147483707) (List.mem_singleton.mpr rfl) (by omega) (by omega)
  have hel : ∀ (q : Nat) (v : Int32), (z_el (y_tt X 65).2.2.1 (q % (y_tt X 65).2.2.2.1)).1 ≤ q_qb v ∧ q_qb v ≤ (z_el (y_tt X 65).2.2.1 (q % (y_tt X 65).2.2.2.1)).2 := fun q v => by
    rw [htt]
    show (z_el [(60, 0, 4294967295)] (q % 60)).1 ≤ _ ∧ _ ≤ (z_el [(60, 0, 4294967295)] (q % 60)).2
    rw [h_el25 q (by decide)]
    exact ⟨Nat.zero_le _, q_qb_hi _⟩
  intro m
  induction m with
  | zero =>
    intro k h ws ts o3 hm hk0 hk1 hcm hh0
    have e : k = p1 := by omega
    subst e
    obtain ⟨fs, fc, fr, g, fb, fl, fn, jk, ak, jb, ab, jl, al, jn, an, cK, cB, cL, cN, hbd, hl, hc1, hc2, ⟨hk, hk2⟩, ⟨hb, hb2⟩, hlr, hnr⟩ := hcm
    refine y_iln hC (E 8 _ rfl) rfl ?_
    refine y_aln hC (E 9 _ rfl) rfl ?_
    refine y_get hcl hC (E 10 _ rfl) hbd.1 hb.1 ?_
    refine y_aln hC (E 11 _ rfl) rfl ?_
    refine y_get hcl hC (E 12 _ rfl) hbd.1 hbd.2.2.1 ?_
    refine y_ald hC (E 13 _ rfl) hb.2.1 hb.2.2 h56 hbd.2.2.2.1 (by decide) ?_
    rw [hb2]
    refine y_cmp hC (E 14 _ rfl) (fun _ => ?_) (fun h => absurd h (nI_nlt (Nat.le_refl _) (by omega)))
    refine y_aln hC (E 77 _ rfl) rfl ?_
    refine y_get hcl hC (E 78 _ rfl) hbd.1 hlr.1 ?_
    refine y_ic hC (E 79 _ rfl) ?_
    refine y_ald hC (E 80 _ rfl) hlr.2.1 hlr.2.2 h65 (by decide) (by decide) ?_
    exact y_ir hC hQ (E 81 _ rfl) hn (hp _ _ _)
  | succ m IH =>
    intro k h ws ts o3 hm hk0 hk1 hcm hh0
    have hlt : k < p1 := by omega
    obtain ⟨h', hn1⟩ := h_hs_pre fk p0 (p1 - p0) (k + 1 - p0) hh hok9 (by omega)
    have hle := h_hs_le fk p0 _ _ hh0
    have hn2 := hn1
    rw [show k + 1 - p0 = (k - p0) + 1 by omega] at hn2
    unfold h_hs at hn2
    rw [hh0] at hn2
    have hn2 : (if fk (p0 + (k - p0)) = nI 126 then (if 1 ≤ h then some h else none) else if h_let (fk (p0 + (k - p0))) = 1 then (if h < 60 then some (h + 1) else none) else (if 2 ≤ h then some (h - 1) else none)) = some h' := hn2
    rw [show p0 + (k - p0) = k by omega] at hn2
    have next : ∀ (ws : va_W) (ts : List Nat) (o3 : Option Value), h_cm ws ts jm am b p1 fk → Y X 0 124 [some (.ref am), some (.int (nI h')), some (.int (nI k)), o3] [] ws ts := by
      intro ws ts o3 hc
      refine y_ii hC (E 75 _ rfl) rfl ?_
      refine y_go hC (E 76 _ rfl) ?_
      have := IH (k + 1) h' ws ts o3 (by omega) (by omega) (by omega) hc hn1
      rw [nI_succ] at this
      exact this
    refine y_tyJ hC (fun tys hw hD hJ hfr0 => ?_)
    have hcm0 := hcm
    obtain ⟨fs, fc, fr, g, fb, fl, fn, jk, ak, jb, ab, jl, al, jn, an, cK, cB, cL, cN, hbd, hl, hc1, hc2, ⟨hk, hk2⟩, ⟨hb, hb2⟩, hlr, hnr⟩ := hcm
    refine y_iln hC (E 8 _ rfl) rfl ?_
    refine y_aln hC (E 9 _ rfl) rfl ?_
    refine y_get hcl hC (E 10 _ rfl) hbd.1 hb.1 ?_
    refine y_aln hC (E 11 _ rfl) rfl ?_
    refine y_get hcl hC (E 12 _ rfl) hbd.1 hbd.2.2.1 ?_
    refine y_ald hC (E 13 _ rfl) hb.2.1 hb.2.2 h56 hbd.2.2.2.1 (by decide) ?_
    rw [hb2]
    refine y_cmp hC (E 14 _ rfl) (fun h => absurd h (nI_ge hlt (by omega))) (fun _ => ?_)
    refine y_aln hC (E 15 _ rfl) rfl ?_
    refine y_get hcl hC (E 16 _ rfl) hbd.1 hk.1 ?_
    refine y_iln hC (E 17 _ rfl) rfl ?_
    refine y_ald hC (E 18 _ rfl) hk.2.1 hk.2.2 h61 (show k < 1120 by omega) (by decide) ?_
    rw [hk2 k (by omega)]
    refine y_isn hC (E 19 _ rfl) ?_
    refine y_iln hC (E 20 _ rfl) rfl ?_
    refine y_bp hC (E 21 _ rfl) ?_
    have keep : ∀ (f9 : Nat → Int32), h_cm (ws.set jl (al, .inl (cL, 60, .inl f9))) ts jm am b p1 fk := fun f9 => ⟨fs, fc, fr, g, fb, f9, fn, jk, ak, jb, ab, jl, al, jn, an, cK, cB, cL, cN, hbd.set hlr.2.2 (by decide) (by decide) (by decide), hl, hc1, hc2, ⟨hk.set hlr.2.2 (by decide), hk2⟩, ⟨hb.set hlr.2.2 (by decide), hb2⟩, hlr.self f9, hnr.set hlr.2.2 (by decide)⟩
    refine y_cmp hC (E 22 _ rfl) (fun hx => ?_) (fun hx => ?_)
    · have hx : ¬ fk k = nI 126 := hx
      rw [if_neg hx] at hn2
      refine y_iln hC (E 40 _ rfl) rfl ?_
      refine y_stap hok hC (E 41 _ rfl) (by decide) (by decide) (av := [.int (fk k)]) (rv := []) (by rw [htt]; exact h_m_letter hok (fk k)) rfl rfl (by rw [hd]; decide) hn h_cat0 ?_
      refine y_if hC (E 42 _ rfl) (fun hy => ?_) (fun hy => ?_)
      · have hy : nI (h_let (fk k)) = 0 := hy
        have hy0 : ¬ h_let (fk k) = 1 := fun e => by
          rw [e] at hy
          exact absurd hy (by decide)
        rw [if_neg hy0] at hn2
        split at hn2
        · rename_i h2
          cases hn2
          obtain ⟨r, rfl⟩ : ∃ r, h = r + 2 := ⟨h - 2, by omega⟩
          have e1 : nI (r + 2) + nI 4294967295 = nI (r + 1) := by
            rw [show r + 2 = (r + 1) + 1 by omega, nI_succ]
            have : (nI (r + 1) + 1) + nI 4294967295 = nI (r + 1) + (1 + nI 4294967295) := Int32.add_assoc _ _ _
            rw [this, show (1 : Int32) + nI 4294967295 = 0 by decide, Int32.add_zero]
          have e2 : nI (r + 1) - nI 1 = nI r := nI_pred r
          refine y_ii hC (E 56 _ rfl) rfl ?_
          rw [e1]
          refine y_aln hC (E 57 _ rfl) rfl ?_
          refine y_get hcl hC (E 58 _ rfl) hbd.1 hlr.1 ?_
          refine y_iln hC (E 59 _ rfl) rfl ?_
          refine y_ic hC (E 60 _ rfl) ?_
          refine y_sub hC (E 61 _ rfl) ?_
          rw [e2]
          refine y_iln hC (E 62 _ rfl) rfl ?_
          refine y_aln hC (E 63 _ rfl) rfl ?_
          refine y_get hcl hC (E 64 _ rfl) hbd.1 hlr.1 ?_
          refine y_iln hC (E 65 _ rfl) rfl ?_
          refine y_ic hC (E 66 _ rfl) ?_
          refine y_sub hC (E 67 _ rfl) ?_
          rw [e2]
          refine y_ald hC (E 68 _ rfl) hlr.2.1 hlr.2.2 h65 (show r < 60 by omega) (by decide) ?_
          refine y_aln hC (E 69 _ rfl) rfl ?_
          refine y_get hcl hC (E 70 _ rfl) hbd.1 hlr.1 ?_
          refine y_iln hC (E 71 _ rfl) rfl ?_
          refine y_ald hC (E 72 _ rfl) hlr.2.1 hlr.2.2 h65 (show r + 1 < 60 by omega) (by decide) ?_
          refine y_sta hok hC (E 73 _ rfl) (by decide) (by decide) (av := [.int (fk k), .int (fl r), .int (fl (r + 1))]) (rv := [.int (nI r), .ref al]) (dd := (0, 0)) (kc := []) (hT ws ts _ _ ⟨h_tint _ _ _, h_tint _ _ _, h_tint _ _ _, trivial⟩ rfl hJ) rfl rfl (by rw [hd]; decide) hn (by show 1 + (1 + 0) ≤ 8; decide) h_nk (fun v ws' ts' hfr hpo => ?_)
          have hp9 := hpo.1
          rw [if_pos (show h_Mtwo.2.2.2.2.2.2.1 = true from rfl)] at hp9
          obtain ⟨t, t1, r0, rfl, t2⟩ := hp9
          rcases List.mem_singleton.mp t1 with rfl
          obtain ⟨x9, rfl, -⟩ := h_tvi t2
          refine y_ty (fun tys' hw' hD' => ?_)
          rw [htt] at hw'
          have hal : h_row ws ts fs 33 65 60 jl al cL fl := hlr
          obtain ⟨cL', fl', q1, -⟩ := hal.fr hfr hw' rfl rfl
          have hcm' := hcm0.fr hfr hw'
          obtain ⟨fs2, fc2, fr2, g2, fb2, fl2, fn2, jk2, ak2, jb2, ab2, jl2, al2, jn2, an2, cK2, cB2, cL2, cN2, hbd2, hl2, hc12, hc22, ⟨hk9, hk29⟩, ⟨hb9, hb29⟩, hlr2, hnr2⟩ := hcm'
          have efs : fs2 = fs := by
            have o := (h_fr_obj hfr hw' hbd.1 hbd.2.1 hl).1
            have := hbd2.1.symm.trans o
            exact congrArg Prod.snd (Sum.inr.inj (congrArg Prod.snd (Option.some.inj this)))
          subst efs
          have ea : al2 = al := by
            have := hlr2.1.symm.trans q1.1
            cases this
            rfl
          subst ea
          refine y_ast hC (E 74 _ rfl) hlr2.2.1 hlr2.2.2 h65 (show r < 60 by omega) (by decide) (hel r x9) (hst r (by omega)) ?_
          exact next _ ts' _ ⟨fs2, fc2, fr2, g2, fb2, _, fn2, jk2, ak2, jb2, ab2, jl2, al2, jn2, an2, cK2, cB2, cL2, cN2, hbd2.set hlr2.2.2 (by decide) (by decide) (by decide), hl2, hc12, hc22, ⟨hk9.set hlr2.2.2 (by decide), hk29⟩, ⟨hb9.set hlr2.2.2 (by decide), hb29⟩, hlr2.self _, hnr2.set hlr2.2.2 (by decide)⟩
        · cases hn2
      · have hy1 : h_let (fk k) = 1 := by
          rcases h_nI01 (h_in_lt (fk k) (nI 97) (nI 122)) with ⟨q, _⟩ | ⟨_, q⟩
          · exact absurd q hy
          · exact q
        rw [if_pos hy1] at hn2
        split at hn2
        · rename_i h2
          cases hn2
          refine y_aln hC (E 43 _ rfl) rfl ?_
          refine y_get hcl hC (E 44 _ rfl) hbd.1 hlr.1 ?_
          refine y_iln hC (E 45 _ rfl) rfl ?_
          refine y_aln hC (E 46 _ rfl) rfl ?_
          refine y_iln hC (E 47 _ rfl) rfl ?_
          refine y_aln hC (E 48 _ rfl) rfl ?_
          refine y_get hcl hC (E 49 _ rfl) hbd.1 hnr.1 ?_
          refine y_iln hC (E 50 _ rfl) rfl ?_
          refine y_ald hC (E 51 _ rfl) hnr.2.1 hnr.2.2 h62 (show k < 1120 by omega) (by decide) ?_
          obtain ⟨bv, hbv⟩ := hbd.pf (na := 3) (av := [.ref am, .int (fk k), .int (fn k)]) hc1 hc2 rfl rfl
          refine y_vir hok hC (E 52 _ rfl) (by decide) (As := [.int (fk k), .int (fn k)]) (rv := [.int (nI h), .ref al]) (dd := (0, 0)) (kc := []) (hA ws ts [.ref am, .int (fk k), .int (fn k)] bv ⟨Or.inr (Or.inl ⟨rfl, jm, am, rfl, h_ad hbd.1, hbd.2.1⟩), h_tint _ _ _, h_tint _ _ _, trivial⟩ hbv hJ) hbd.1 rfl rfl (by rw [hd]; decide) hn (by show 1 + (1 + 0) ≤ 8; decide) h_nk (fun v ws' ts' hfr hpo => ?_)
          have hp9 := hpo.1
          rw [if_pos (show (h_Mask b).2.2.2.2.2.2.1 = true from rfl)] at hp9
          obtain ⟨t, t1, r0, rfl, t2⟩ := hp9
          rcases List.mem_singleton.mp t1 with rfl
          obtain ⟨x9, rfl, -⟩ := h_tvi t2
          refine y_ty (fun tys' hw' hD' => ?_)
          rw [htt] at hw'
          obtain ⟨cL', fl', q1, -⟩ := hlr.fr hfr hw' rfl rfl
          have hcm' := hcm0.fr hfr hw'
          obtain ⟨fs2, fc2, fr2, g2, fb2, fl2, fn2, jk2, ak2, jb2, ab2, jl2, al2, jn2, an2, cK2, cB2, cL2, cN2, hbd2, hl2, hc12, hc22, ⟨hk9, hk29⟩, ⟨hb9, hb29⟩, hlr2, hnr2⟩ := hcm'
          have efs : fs2 = fs := by
            have o := (h_fr_obj hfr hw' hbd.1 hbd.2.1 hl).1
            have := hbd2.1.symm.trans o
            exact congrArg Prod.snd (Sum.inr.inj (congrArg Prod.snd (Option.some.inj this)))
          subst efs
          have ea : al2 = al := by
            have := hlr2.1.symm.trans q1.1
            cases this
            rfl
          subst ea
          refine y_ast hC (E 53 _ rfl) hlr2.2.1 hlr2.2.2 h65 h2 (by decide) (hel h x9) (hst h h2) ?_
          refine y_ii hC (E 54 _ rfl) rfl ?_
          refine y_go hC (E 55 _ rfl) ?_
          have := next _ ts' (some (.int (fk k))) ⟨fs2, fc2, fr2, g2, fb2, upd fl2 h x9, fn2, jk2, ak2, jb2, ab2, jl2, al2, jn2, an2, cK2, cB2, cL2, cN2, hbd2.set hlr2.2.2 (by decide) (by decide) (by decide), hl2, hc12, hc22, ⟨hk9.set hlr2.2.2 (by decide), hk29⟩, ⟨hb9.set hlr2.2.2 (by decide), hb29⟩, hlr2.self _, hnr2.set hlr2.2.2 (by decide)⟩
          rw [nI_succ] at this
          exact this
        · cases hn2
    · have hx : fk k = nI 126 := hx
      rw [if_pos hx] at hn2
      split at hn2
      · rename_i h1
        cases hn2
        obtain ⟨r, rfl⟩ : ∃ r, h = r + 1 := ⟨h - 1, by omega⟩
        have e2 : nI (r + 1) - nI 1 = nI r := nI_pred r
        have store : ∀ x, x < 2 → Y X 0 61 [some (.ref am), some (.int (nI (r + 1))), some (.int (nI k)), some (.int (fk k))] [.int (nI x), .int (nI r), .ref al] ws ts := by
          intro x hx2
          refine y_ast hC (E 38 _ rfl) hlr.2.1 hlr.2.2 h65 (show r < 60 by omega) (by decide) (hel r _) (hst r (by omega)) ?_
          refine y_go hC (E 39 _ rfl) ?_
          exact next _ ts _ (keep _)
        refine y_aln hC (E 23 _ rfl) rfl ?_
        refine y_get hcl hC (E 24 _ rfl) hbd.1 hlr.1 ?_
        refine y_iln hC (E 25 _ rfl) rfl ?_
        refine y_ic hC (E 26 _ rfl) ?_
        refine y_sub hC (E 27 _ rfl) ?_
        rw [e2]
        refine y_aln hC (E 28 _ rfl) rfl ?_
        refine y_get hcl hC (E 29 _ rfl) hbd.1 hlr.1 ?_
        refine y_iln hC (E 30 _ rfl) rfl ?_
        refine y_ic hC (E 31 _ rfl) ?_
        refine y_sub hC (E 32 _ rfl) ?_
        rw [e2]
        refine y_ald hC (E 33 _ rfl) hlr.2.1 hlr.2.2 h65 (show r < 60 by omega) (by decide) ?_
        refine y_if hC (E 34 _ rfl) (fun _ => ?_) (fun _ => ?_)
        · refine y_ic hC (E 37 _ rfl) ?_
          exact store 0 (by decide)
        · refine y_ic hC (E 35 _ rfl) ?_
          refine y_go hC (E 36 _ rfl) ?_
          exact store 1 (by decide)
      · cases hn2
end HC
