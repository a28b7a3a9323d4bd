/-! ===== new Sand ===== -/
def z_nZ : Nat := 1897137597242004746899777248846145637923593842525093425848874071016747648589758480
def z_spk (e : q_I) : Bool := match e.2.2.1 with
  | .new _ => not (Nat.beq e.2.2.2.1 5) || (Nat.beq e.2.2.2.2.1 11 && Nat.beq e.2.2.2.2.2 z_nZ)
  | .invokespecial _ => not (Nat.beq e.2.2.2.1 z_sI) || (not (Nat.beq e.2.2.2.2.2 78) && (not (Nat.beq e.2.2.2.2.2 99) && Nat.beq e.2.2.2.2.1 1))
  | _ => true
theorem z_spk_all : (List.range 281).all (fun i => (q_code i).all z_spk) = true := by decide +kernel
theorem z_i1_eq {ins : Instr} (h : z_i1 ins = true) : ins = .dup := by
  cases ins <;> first | rfl | (have h : false = true := h; cases h)
theorem z_i2_eq {ins : Instr} (h : z_i2 ins = true) : ∃ n, ins = .invokespecial n := by
  cases ins <;> first | exact ⟨_, rfl⟩ | (have h : false = true := h; cases h)
noncomputable def z_nh1 : q_H := (1, q_ts 7 (q_t0 7) 0 (10, 11, z_nZ))
noncomputable def z_nrun : Option q_R := q_run (fun _ => (0, 4294967295)) q_code [] 300 3 z_sI (q_code z_sI) (q_code z_sI) (q_pk [4294967328]) [] z_nh1
def z_nts : List Nat := [16, 17, 18, 19, 20, 21, 22, 23, 24]
noncomputable def z_nR (R : q_R) : Bool := (match R.2 with
  | [] => true
  | _ => false) && (Nat.beq R.1.1 9 && (Nat.beq (q_ss R.1) 446 && z_qck z_tt R.1 z_nts))
noncomputable def z_nck : Bool := Nat.beq (q_ss z_nh1) 11 && (match z_nrun with
  | some R => z_nR R
  | none => false)
theorem z_nck_ok : z_nck = true := by decide +kernel
theorem z_nrun_ok : q_ss z_nh1 = 11 ∧ ∃ hf : q_H, z_nrun = some (hf, []) ∧ hf.1 = 9 ∧ q_ss hf = 446 ∧ z_qck z_tt hf z_nts = true := by
  have h := z_nck_ok
  unfold z_nck at h
  obtain ⟨h0, h⟩ := q_ands h
  refine ⟨q_beq.mp h0, ?_⟩
  generalize z_nrun = o at h
  match o, h with
  | none, h => cases h
  | some (hf, []), h =>
    have h : (true && (Nat.beq hf.1 9 && (Nat.beq (q_ss hf) 446 && z_qck z_tt hf z_nts))) = true := h
    obtain ⟨h1, h2⟩ := q_ands h
    obtain ⟨h2, h3⟩ := q_ands h2
    obtain ⟨h3, h4⟩ := q_ands h3
    exact ⟨hf, rfl, q_beq.mp h2, q_beq.mp h3, h4⟩
  | some (hf, _ :: _), h => cases h
/-- a wider world -/
theorem z_cell.wide {ad ad' ts ts' : List Nat} {tys tys' : List (ClassId × FieldType)} {T : z_T} {e : va_E} (h : z_cell ad ts tys T e) (hr : ∀ t v, z_rt ad ts t v → z_rt ad' ts' t v) (ht : ∀ (k : Nat) (q : ClassId × FieldType), tys[k]? = some q → ∃ k' : Nat, tys'[k']? = some q) : z_cell ad' ts' tys' T e := by
  have hv : ∀ (t : z_C) (v : Value), z_tv ad ts t v → z_tv ad' ts' t v := by
    intro t v h
    rcases h with h | ⟨h1, h2⟩ | ⟨h1, h2 | h2⟩ | h
    · exact Or.inl h
    · exact Or.inr (Or.inl ⟨h1, hr _ _ h2⟩)
    · exact Or.inr (Or.inr (Or.inl ⟨h1, Or.inl h2⟩))
    · exact Or.inr (Or.inr (Or.inl ⟨h1, Or.inr (hr _ _ h2)⟩))
    · exact Or.inr (Or.inr (Or.inr h))
  rcases h with ⟨h0, fs, h1, h2, h3⟩ | ⟨h0, cA, t, f, h1, h2, h3⟩ | ⟨h0, cA, t, f, h1, h2, h3⟩ | ⟨h0, cA, t, f, h1, h2, h3⟩ | ⟨h0, cA, t, f, h1, h2⟩ | ⟨h0, cA, t, f, h1, h2, h3⟩
  · exact Or.inl ⟨h0, fs, h1, h2, fun k v hk => hv _ _ (h3 k v hk)⟩
  · obtain ⟨k, hk⟩ := ht _ _ h2
    exact Or.inr (Or.inl ⟨h0, cA, k, f, h1, hk, h3⟩)
  · obtain ⟨k, hk⟩ := ht _ _ h2
    exact Or.inr (Or.inr (Or.inl ⟨h0, cA, k, f, h1, hk, h3⟩))
  · obtain ⟨k, hk⟩ := ht _ _ h2
    exact Or.inr (Or.inr (Or.inr (Or.inl ⟨h0, cA, k, f, h1, hk, h3⟩)))
  · obtain ⟨k, hk⟩ := ht _ _ h2
    exact Or.inr (Or.inr (Or.inr (Or.inr (Or.inl ⟨h0, cA, k, f, h1, hk⟩))))
  · obtain ⟨k, hk⟩ := ht _ _ h2
    exact Or.inr (Or.inr (Or.inr (Or.inr (Or.inr ⟨h0, cA, k, f, h1, hk, fun j a hj ha => hr _ _ (h3 j a hj ha)⟩))))
theorem z_getr {α : Type} {a b : List α} {k : Nat} {x : α} (h : b[k]? = some x) : (a ++ b)[a.length + k]? = some x := by
  rw [List.getElem?_append_right (Nat.le_add_right _ _), Nat.add_sub_cancel_left]
  exact h
theorem z_W.app {tt : Nat → z_T} {w1 w2 : va_W} {y1 y2 : List (ClassId × FieldType)} {t1 t2 : List Nat} (h1 : z_W tt w1 y1 t1) (h2 : z_W tt w2 y2 t2) (h40 : ∀ t ∈ t2, ¬ t = 40) : z_W tt (w1 ++ w2) (y1 ++ y2) (t1 ++ t2) := by
  have ead : q_ad (w1 ++ w2) = q_ad w1 ++ q_ad w2 := List.map_append
  have el : (q_ad w1).length = t1.length := by rw [List.length_map]; exact h1.1.symm
  have in1 : ∀ i, (t1 ++ t2)[i]? = some 40 → t1[i]? = some 40 := fun i hi => by
    rcases Nat.lt_or_ge i t1.length with hl | hl
    · rw [List.getElem?_append_left hl] at hi
      exact hi
    · rw [List.getElem?_append_right hl] at hi
      exact absurd rfl (h40 40 (List.mem_of_getElem? hi))
  refine ⟨by rw [List.length_append, List.length_append, h1.1, h2.1], fun k a e hk => ?_, fun i j hi hj => h1.2.2 i j (in1 i hi) (in1 j hj)⟩
  rw [ead]
  by_cases hlt : k < w1.length
  · rw [List.getElem?_append_left hlt] at hk
    obtain ⟨t, g1, g2⟩ := h1.2.1 k a e hk
    exact ⟨t, z_gm (List.prefix_append _ _) g1, g2.mono (List.prefix_append _ _) (List.prefix_append _ _) (List.prefix_append _ _)⟩
  · rw [List.getElem?_append_right (by omega)] at hk
    obtain ⟨t, g1, g2⟩ := h2.2.1 (k - w1.length) a e hk
    refine ⟨t, ?_, g2.wide (fun u v hv => ?_) (fun j q hj => ⟨_, z_getr hj⟩)⟩
    · have := z_getr (a := t1) g1
      rw [show t1.length + (k - w1.length) = k by have := h1.1; omega] at this
      exact this
    · obtain ⟨j, b, e1, e2, e3⟩ := hv
      refine ⟨(q_ad w1).length + j, b, e1, z_getr e2, ?_⟩
      rw [el]
      exact z_getr e3
section ZN
variable {p : Program} {l : Launch} {e : Env} {R : Room} {s : State} {m : MethodId} {args : Array Value} {below : List Frame} {meth : Method} {c : Code} {H : Heap} {locs : List Loc} {cells slots : Nat} {Q : State → Prop} {base b2 : Nat} {D : va_G} {env : Nat → Int32}
theorem z_afq {pc mc ms : Nat} {ls : Array Slot} {st0 rest : List Value} {ad0 : List Nat} {hf : q_H} {r : List Nat} {a : Array Value} (hb : base ≤ b2) (hr : va_Run p l e R s m args below meth c H locs cells slots mc ms (F0 m pc ls st0) rest (q_Qc b2 D env ad0 hf r a) (q_A b2)) (hS : va_S (q_A base) s.heap H locs)
    (kk : ∀ (v : Option Value) (ws : va_W) (tys : List (ClassId × FieldType)) (H1 : Heap) (locs1 : List Loc), q_rv env (q_ad ws) r v → ad0 <+: q_ad ws → q_W env hf ws tys → va_P D q_cls ws H1 → va_K D q_cls tys s → va_D (q_A b2) ws → va_S (q_A base) s.heap H1 locs1 → (∀ q : Nat, q < H.size → q < b2 → H1[q]? = H[q]?) → W p l e R s m args below meth c H1 locs1 (cells + mc) (slots + ms) Q (F0 m (pc + 3) ls (v.toList ++ rest))) : W p l e R s m args below meth c H locs cells slots Q (F0 m pc ls st0) := by
  intro T hT X
  obtain ⟨v, st₀, t, T', L, h0, X', hL, e1, e2, ⟨⟨v2, ws, tys, ho, hrv, hpre, hw, hP, hK, hD⟩, hz, hk⟩, st⟩ := hr T hT X
  cases ho
  rw [h0] at hz hk
  have hal : t.vm.Alike s.vm := by rw [← e2]; exact X'.warmed.alike.symm
  obtain ⟨t2, a1, b1⟩ := kk v ws tys T'.heap (locs ++ L) hrv hpre hw (by rw [e1]; exact hP) (va_K.moved hal hK) hD
    ⟨Nat.le_trans hS.1 (by rw [e1]; exact hz), fun q h1 h2 => by
      have h2 : ¬ base ≤ q := h2
      rw [e1, hk q (Nat.lt_of_lt_of_le h1 hS.1) (fun h3 => h2 (Nat.le_trans hb h3))]
      exact hS.2.1 q h1 h2, fun q hq => by
      rcases List.mem_append.mp hq with h | h
      · exact hS.2.2 q h
      · exact Nat.le_trans hb (hL q h)⟩ (fun q h1 h2 => by
      rw [e1]
      exact hk q h1 (fun h3 => Nat.lt_irrefl _ (Nat.lt_of_lt_of_le h2 h3))) T' rfl X'
  exact ⟨t2, st t2 a1, b1⟩
end ZN
theorem z_vnew {p : Program} {l : Launch} {e : Env} {R : Room} {s : State} {m : MethodId} {args : Array Value} {below : List Frame} {meth : Method} {H : Heap} {locs : List Loc} {cells slots : Nat} {Q : State → Prop} {cc : ByteArray} {pc : Nat} {ls : Array Slot} {rest : List Value} {D : va_G} {cl : List vw_C} {tys : List (ClassId × FieldType)} {c0 : Code} (hexec : p.tables.exec = Jvm.exec) (hb : c0.code = cc) {own C : String} {T : u_T} {N ci index : Nat} {Ts : List Cond} (hts : ∀ w ∈ Ts, w.before args s = true) (hin : ∀ w ∈ u_ws C T N, w ∈ Ts) (ty : Nat → FieldType) (hty : ∀ k, k < N → parseFieldDescriptor (T k).2.2.1 = some (ty k)) (hown : s.vm.findClass own = some m.cls) (hcl : (Cond.classLink own index C).before args s = true) (hinst : (Cond.instantiable C N).before args s = true) (hini : (Cond.initialized C).before args s = true)
    (hK : va_K D cl tys s) (hc : cl[ci]? = some (C, T, N)) {fs : List Value} (hfs : ∀ j, j < N → defaultValue (ty j) = vp_V fs j) (hcells : cells + 1 ≤ R.cells) (hslots : slots + N ≤ R.slots) (hdg : decode cc pc = .ok (.new index, 3))
    (kk : ∀ H1 : Heap, va_P D cl [(H.size, .inr (ci, fs))] H1 → H1.size = H.size + 1 → (∀ q : Nat, q < H.size → H1[q]? = H[q]?) → W p l e R s m args below meth c0 H1 locs (cells + 1) (slots + N) Q (F0 m (pc + 3) ls (.ref H.size :: rest))) : W p l e R s m args below meth c0 H locs cells slots Q (F0 m pc ls rest) := by
  have hKn := hK.1 ci _ hc
  refine W.newcK hexec hb hown hcl hinst hini rfl hdg hcells hslots hKn.2.1 rfl fun H1 kC hkC e1 z1 o1 => ?_
  refine kk H1 (fun k x hx => ?_) z1 o1
  have hz : k < 1 := (List.getElem?_eq_some_iff.mp hx).1
  rw [show k = 0 by omega] at hx
  cases hx
  exact ⟨_, hc, (u_born ty hts hin hKn hkC e1 hty).to hfs⟩
theorem z_e0 : q_rgs (fun _ => 0) (fun _ => (0, 4294967295)) := fun _ _ => ⟨Nat.zero_le _, q_qb_hi _⟩
/-- new Sand, dup, its constructor: nine cells more -/
theorem z_s_new {l : Launch} {base : Nat} {D : va_G} {sa : Nat → Nat} {g : z_G} {J : va_W → List Nat → Prop} (hcl : q_clok) (hok : ∀ i, i < q_nM → q_mok i) (ho1 : Cond.instanceMethod Lib.objectInit ∈ q_w0 ∧ Cond.code Lib.objectInit ⟨#[0xb1]⟩ 1 none ∈ q_w0) (ho2 : Cond.native arraycopyName ∈ q_w0 ∧ Cond.static arraycopyName ∈ q_w0 ∧ Cond.initialized "java/lang/System" ∈ q_w0) (hg1 : g.1 = z_tt) : z_ON l base D sa g J := by
  intro ih d i pc ln x y z n pre tl V L st sp cx os hi hpre hgx hS hr
  match tl, hpre, hr with
  | [], _, hr => cases hr
  | [_], _, hr => cases hr
  | (p1, l1, i1, x1, y1, z1) :: (p2, l2, i2, x2, y2, z2) :: tl2, hpre, hr =>
    have hr : (bif z_i1 i1 && (z_i2 i2 && (Nat.beq x2 z_sI && (Nat.beq x 5 && (Nat.ble (z_cats st) 6 && (Nat.blt V.2.2.2.2.2 d.2 && Nat.ble 4 d.1))))) then ih d i (q_code i) tl2 (z_addM (z_push V 1 0) 1) L ((1, V.1, z_tS) :: st) sp cx else none) = some os := hr
    obtain ⟨b1, hr9⟩ := q_bifs hr
    clear hr
    obtain ⟨b1, b2⟩ := q_ands b1
    obtain ⟨b2, b3⟩ := q_ands b2
    obtain ⟨b3, b4⟩ := q_ands b3
    obtain ⟨b4, b5⟩ := q_ands b4
    obtain ⟨b5, b6⟩ := q_ands b5
    obtain ⟨b6, b7⟩ := q_ands b6
    have b1 := z_i1_eq b1
    obtain ⟨n2, b2⟩ := z_i2_eq b2
    have b3 := q_beq.mp b3
    have b4 := q_beq.mp b4
    have b5 := q_ble.mp b5
    have b6 := q_blt.mp b6
    have b7 := q_ble.mp b7
    subst b1
    subst b2
    subst b3
    subst b4
    have hm := hok i hi
    have m0 : (pc, ln, Instr.new n, 5, y, z) ∈ q_code i := by rw [hpre]; simp
    have m1 : (p1, l1, Instr.dup, x1, y1, z1) ∈ q_code i := by rw [hpre]; simp
    have m2 : (p2, l2, Instr.invokespecial n2, z_sI, y2, z2) ∈ q_code i := by rw [hpre]; simp
    have hs := List.all_eq_true.mp (List.all_eq_true.mp z_spk_all i (List.mem_range.mpr hi))
    have s0 : (not (Nat.beq 5 5) || (Nat.beq y 11 && Nat.beq z z_nZ)) = true := hs _ m0
    have s2 : (not (Nat.beq z_sI z_sI) || (not (Nat.beq z2 78) && (not (Nat.beq z2 99) && Nat.beq y2 1))) = true := hs _ m2
    have s0 : (Nat.beq y 11 && Nat.beq z z_nZ) = true := s0
    have ey := q_beq.mp (q_ands s0).1
    have ez := q_beq.mp (q_ands s0).2
    subst ey
    subst ez
    have s2 : (not (Nat.beq z2 78) && (not (Nat.beq z2 99) && Nat.beq y2 1)) = true := s2
    have e78 : ¬ z2 = 78 := fun h => by
      subst h
      cases (q_ands s2).1
    have e99 : ¬ z2 = 99 := fun h => by
      subst h
      cases (q_ands (q_ands s2).2).1
    have ey2 := q_beq.mp (q_ands (q_ands s2).2).2
    subst ey2
    obtain ⟨hd0, hk0⟩ := hm.2.2.2.2.2.2.2.2 _ m0
    obtain ⟨hd1, hk1⟩ := hm.2.2.2.2.2.2.2.2 _ m1
    obtain ⟨hd2, hk2⟩ := hm.2.2.2.2.2.2.2.2 _ m2
    have hd0 : decode (q_b i) pc = .ok (.new n, ln) := hd0
    have hd1 : decode (q_b i) p1 = .ok (.dup, l1) := hd1
    have hd2 : decode (q_b i) p2 = .ok (.invokespecial n2, l2) := hd2
    obtain ⟨q1, rc, hrc, hy, hl1, hl2, hl3, hdf⟩ := hk0
    have hy : 11 = rc.2.2 := hy
    have q2 : l1 = 1 := hk1
    rcases hk2 with hk2 | ⟨q3, hk2 | ⟨-, hx2, hym, -, hdesc, hini, hrt, hin, hlk⟩⟩
    · exact absurd hk2 e99
    · exact absurd hk2.1 e78
    have q1 : ln = 3 := q1
    have q3 : l2 = 3 := q3
    subst q1
    subst q2
    subst q3
    have hch := hm.2.2.2.2.2.2.1
    have c1 : p1 = pc + 3 := q_chn_at pre (pc, 3, Instr.new n, 5, 11, z_nZ) (p1, 1, Instr.dup, x1, y1, z1) ((p2, 3, Instr.invokespecial n2, z_sI, 1, z2) :: tl2) (by rw [← hpre]; exact hch)
    have c2 : p2 = p1 + 1 := q_chn_at (pre ++ [(pc, 3, Instr.new n, 5, 11, z_nZ)]) (p1, 1, Instr.dup, x1, y1, z1) (p2, 3, Instr.invokespecial n2, z_sI, 1, z2) tl2 (by rw [List.append_assoc]; rw [hpre] at hch; exact hch)
    obtain ⟨e3, t3, ht3, hok3⟩ := hS (pre ++ [(pc, 3, Instr.new n, 5, 11, z_nZ), (p1, 1, Instr.dup, x1, y1, z1), (p2, 3, Instr.invokespecial n2, z_sI, 1, z2)]) tl2 (by rw [hpre, List.append_assoc]; rfl) _ _ _ cx os hgx hr9
    have c3 : e3.1 = p2 + 3 := q_chn_at (pre ++ [(pc, 3, Instr.new n, 5, 11, z_nZ), (p1, 1, Instr.dup, x1, y1, z1)]) (p2, 3, Instr.invokespecial n2, z_sI, 1, z2) e3 t3 (by rw [List.append_assoc]; rw [hpre, ht3] at hch; exact hch)
    rw [c3] at hok3
    subst c2
    subst c1
    clear hS hpre hs m0 m1 m2
    intro p e s m args below meth c Q w0 t0 vs0 H locs ls sv ws tys ts vs C hp hv hL hs hx hf
    obtain ⟨hw, hP, hK, hD, hSS, hfr⟩ := id hp
    have hfs : ∀ j, j < rc.2.2 → defaultValue ((q_fty.getD 5 (fun _ => .int)) j) = vp_V ((List.range rc.2.2).map (fun j => defaultValue ((q_fty.getD 5 (fun _ => .int)) j))) j := by
      intro j hj
      unfold vp_V
      generalize (q_fty.getD 5 (fun _ => .int)) = F
      rw [List.getD_eq_getElem?_getD, List.getElem?_map, List.getElem?_range hj]
      rfl
    have hcr : ∀ ad : List Nat, q_c (fun _ => 0) ad tys (10, 11, z_nZ) (.inr (5, (List.range rc.2.2).map (fun j => defaultValue ((q_fty.getD 5 (fun _ => .int)) j)))) := fun ad => Or.inl ⟨5, _, rfl, rfl, by rw [List.length_map, List.length_range]; exact hy.symm, fun j v hv => by
      have hj : j < rc.2.2 := by
        have := (List.getElem?_eq_some_iff.mp hv).1
        rw [List.length_map, List.length_range] at this
        exact this
      rw [List.getElem?_map, List.getElem?_range hj] at hv
      have hv : defaultValue ((q_fty.getD 5 (fun _ => .int)) j) = v := Option.some.inj hv
      show (q_get z_nZ j = 4294967313 ∧ ∃ x, v = .long x) ∨ q_v (fun _ => 0) ad (q_get z_nZ j) v
      rcases hdf j (by rw [hy]; exact hj) with ⟨g1, g2⟩ | ⟨g1, g2⟩ | ⟨g1, g2⟩ | ⟨g1, g2⟩
      · rw [g2] at hv
        exact Or.inl ⟨g1, _, hv.symm⟩
      · rw [g2] at hv
        rw [g1, ← hv]
        exact Or.inr (q_v.exq ad (Nat.zero_le _) nI_0.symm)
      · rw [g2] at hv
        rw [g1, ← hv]
        exact Or.inr (q_v.exq ad (Nat.zero_le _) nI_0.symm)
      · rw [g2] at hv
        rw [g1, ← hv]
        exact Or.inr (Or.inr (Or.inr (Or.inr (Or.inl ⟨rfl, rfl⟩))))⟩
    generalize hfe : (List.range rc.2.2).map (fun j => defaultValue ((q_fty.getD 5 (fun _ => .int)) j)) = fs at hfs hcr
    have hbs : base ≤ H.size := Nat.le_trans C.1.2.2.2.2.2.2.2.2.2 hSS.1
    refine z_vnew (ci := 5) (C := rc.1) (T := rc.2.1) (N := rc.2.2) (D := D) (tys := tys) C.1.1 C.1.2.1 C.1.2.2.2.2.2.1 (hcl 5 rc hrc).1 _ (hcl 5 rc hrc).2.1 C.1.2.2.2.2.1 (C.1.2.2.2.2.2.1 _ hl1) (by rw [← hy]; exact C.1.2.2.2.2.2.1 _ hl2) (C.1.2.2.2.2.2.1 _ hl3) hK hrc hfs (by show 9 * V.2.2.2.2.2 + 1 ≤ 9 * d.2; omega) (by show 446 * V.2.2.2.2.2 + rc.2.2 ≤ 446 * d.2; omega) hd0 (fun H1 hat z1 o1 => ?_)
    show W p l e (q_rm d.1 (9 * d.2) (446 * d.2)) s m args below meth c H1 locs (9 * V.2.2.2.2.2 + 1) (446 * V.2.2.2.2.2 + rc.2.2) Q (F0 m (pc + 3) ls (.ref H.size :: sv))
    refine lv_dup C.1.1 C.1.2.1 hd1 rfl ?_
    obtain ⟨hss, hfq, hrun, hf9, hf446, hqck⟩ := z_nrun_ok
    have hmet := q_all (l := l) (base := H.size) (D := D) (mem := []) z_e0 hcl hok ho1 ho2 (fun e he => by cases he) 300 3 z_sI [4294967328] z_nh1 hfq [] hx2 (by rw [← hy] at *; exact hym) (fun c hc => by
      rcases List.mem_singleton.mp hc with rfl
      decide) hrun
    have hM := hmet.2 [H.size] [.ref H.size] ⟨q_v.mkref (k := 0) rfl (by decide), trivial⟩
    rw [hf9, hf446, hss, show z_nh1.1 = 1 from rfl] at hM
    have hw1 : q_W (fun _ => 0) z_nh1 [(H.size, .inr (5, fs))] tys := q_W.push (ws := []) (h := (0, q_t0 7)) ⟨rfl, by decide, fun k hk => absurd hk (Nat.not_lt_zero k)⟩ List.prefix_rfl (by decide) (hcr _)
    have hS1 : va_S (q_A base) s.heap H1 locs := ⟨Nat.le_trans hSS.1 (by omega), fun q h1 h2 => (o1 q (Nat.lt_of_lt_of_le h1 hSS.1)).trans (hSS.2.1 q h1 h2), hSS.2.2⟩
    have hPre : PreS s H1 (q_Pc H.size D (fun _ => 0) [H.size] [.ref H.size] z_nh1) [.ref H.size] := ⟨q_blind, fun U hU hW => ⟨rfl, by rw [hU]; omega, q_X.warm hW C.1.2.2.2.2.2.2.1, _, tys, rfl, hw1, by rw [hU]; exact hat, va_K.moved hW.alike hK, ⟨fun a b q1 q2 h1 h2 _ => by
      have := (List.getElem?_eq_some_iff.mp h1).1
      have := (List.getElem?_eq_some_iff.mp h2).1
      simp at *
      omega, fun k q hk => by
      have hz : k < 1 := (List.getElem?_eq_some_iff.mp hk).1
      rw [show k = 0 by omega] at hk
      cases hk
      exact Nat.le_refl _⟩⟩⟩
    obtain ⟨k1, k2, k3, k4, k5, k6, -⟩ := hok z_sI hx2
    have hwy : q_wy z_sI = Cond.code (q_y z_sI) (q_b z_sI) (q_ml z_sI) none :: q_w0 := by rw [← hrt]; rfl
    have hcs := z_cats_s hs
    have hrm : (q_rm 3 (9 - 1) (446 - 11)).frames + 1 ≤ (q_rm d.1 (9 * d.2) (446 * d.2)).frames ∧ 8 + (q_ml z_sI + 11) + (q_rm 3 (9 - 1) (446 - 11)).locals ≤ (q_rm d.1 (9 * d.2) (446 * d.2)).locals := ⟨b7, by show 8 + (q_ml z_sI + 11) + 40 * 3 ≤ 40 * d.1; omega⟩
    have hfc : 9 * V.2.2.2.2.2 + 1 + (9 - 1) ≤ (q_rm d.1 (9 * d.2) (446 * d.2)).cells ∧ 446 * V.2.2.2.2.2 + rc.2.2 + (446 - 11) ≤ (q_rm d.1 (9 * d.2) (446 * d.2)).slots := ⟨by show 9 * V.2.2.2.2.2 + 1 + (9 - 1) ≤ 9 * d.2; omega, by show 446 * V.2.2.2.2.2 + rc.2.2 + (446 - 11) ≤ 446 * d.2; omega⟩
    obtain ⟨hll, lv, hl, -⟩ := id hL
    have hroom : ((Value.ref H.size :: sv).map fun v => v.category).sum ≤ 8 := by
      rw [List.map_cons, List.sum_cons]
      have : (Value.ref H.size).category = 1 := rfl
      omega
    have fin : va_Run p l e (q_rm d.1 (9 * d.2) (446 * d.2)) s m args below meth c H1 locs (9 * V.2.2.2.2.2 + 1) (446 * V.2.2.2.2.2 + rc.2.2) (9 - 1) (446 - 11) (F0 m (pc + 3 + 1) ls (.ref H.size :: .ref H.size :: sv)) (.ref H.size :: sv) (q_Qc H.size D (fun _ => 0) [H.size] hfq [] #[.ref H.size]) (q_A H.size) := by
      rcases hlk with hlk | ⟨host, hlk⟩
      · exact va_runI (Ts := q_w0) (own := (q_y i).cls) (nL := q_ml i) (As := []) (b := H.size) ⟨C.1.1, C.1.2.1, C.1.2.2.2.1, C.1.2.2.2.2.1, C.1.2.2.2.2.2.1⟩ hM ⟨callB_of 0 C.1.2.2.2.2.2.1 (q_goodIn k1) hwy rfl rfl (C.1.2.2.2.2.2.1 _ k3) (C.1.2.2.2.2.2.1 _ hlk) ⟨k4, k5, hdesc⟩ hrm, hini, C.1.2.2.2.2.2.1 _ hin⟩ hPre rfl rfl hl.1 rfl (lv_room hroom) hd2 hfc
      · exact va_runIN (Ts := q_w0) (own := (q_y i).cls) (nL := q_ml i) (As := []) (b := H.size) ⟨C.1.1, C.1.2.1, C.1.2.2.2.1, C.1.2.2.2.2.1, C.1.2.2.2.2.2.1⟩ hM ⟨va_cnB 0 C.1.2.2.2.2.2.1 (q_goodIn k1) hwy rfl rfl (C.1.2.2.2.2.2.2.1.1 _ hlk) (C.1.2.2.2.2.2.1 _ k3) ⟨k4, k5, hdesc⟩ hrm, hini, C.1.2.2.2.2.2.1 _ hin⟩ hPre rfl rfl hl.1 rfl (lv_room hroom) hd2 hfc
    refine z_afq hbs fin hS1 (fun v ws9 tys9 H9 locs9 h1 h2 h3 h4 h5 h6 h7 h8 => ?_)
    have ev : v = none := by
      rcases h1 with ⟨-, h⟩ | ⟨_, _, h, _⟩
      · exact h
      · cases h
    subst ev
    have hkept : ∀ (k : Nat) (q : Nat × va_E), ws[k]? = some q → H9[q.1]? = H[q.1]? := fun k q hq => by
      have hlt := (hP k q hq).lt
      rw [h8 q.1 (by omega) hlt]
      exact o1 q.1 hlt
    have ead : q_ad (ws ++ ws9) = q_ad ws ++ q_ad ws9 := List.map_append
    have hz9 := z_ofq h3 hqck
    have hp9 : z_Hp base D g.1 g.2.1 s w0 t0 H9 locs9 (ws ++ ws9) (tys ++ tys9) (ts ++ z_nts) := by
      refine ⟨by rw [hg1] at hw ⊢; exact hw.app hz9 (by decide), (hP.kept hkept).app h4, ⟨hK.1, fun k q hk => ?_⟩, hD.app ⟨h6.1, fun k q hk => Nat.le_trans hbs (h6.2 k q hk)⟩ (fun a b q1 q2 g1 g2 g3 => ?_), h7, ⟨hfr.1.trans (List.prefix_append _ _), by rw [ead]; exact hfr.2.1.trans (List.prefix_append _ _), fun j a t k e9 v9 g1 g2 g3 g4 => ?_⟩⟩
      · by_cases hlt : k < tys.length
        · rw [List.getElem?_append_left hlt] at hk
          exact hK.2 k q hk
        · rw [List.getElem?_append_right (by omega)] at hk
          exact h5.2 _ q hk
      · have g4 := (hP a q1 g1).lt
        have g5 : H.size ≤ q2.1 := h6.2 b q2 g2
        omega
      · obtain ⟨e8, g5, g6⟩ := hfr.2.2 j a t k e9 v9 g1 g2 g3 g4
        exact ⟨e8, z_gm (List.prefix_append _ _) g5, g6⟩
    have hfr0 : z_Fr [] ws ts (ws ++ ws9) (ts ++ z_nts) := ⟨List.prefix_append _ _, by rw [ead]; exact List.prefix_append _ _, fun j a t k e9 v9 g1 g2 g3 g4 => ⟨e9, z_gm (List.prefix_append _ _) g1, g3⟩⟩
    have hpv : vs <+: vs ++ [.ref H.size] := List.prefix_append _ _
    have hE9 : z_E (z_push V 1 0) (vs ++ [.ref H.size]) := hv.2.1.push (by decide) (by decide) trivial
    have hF9 := z_keeps (F' := V.2.2.2.1) hv.2.1 hv.2.2.1 hfr0 (fun f hf => ⟨hf, fun k hk => by cases hk⟩)
    have hv9 : z_Sv sa g.1 vs0 (ws ++ ws9) (ts ++ z_nts) (z_addM (z_push V 1 0) 1) (vs ++ [.ref H.size]) := ⟨hv.1.trans hpv, hE9.same rfl rfl rfl, hF9.mono hpv, hv.2.2.2.mono hpv hfr0.2.1 hfr0.1⟩
    have hrf : z_v sa (q_ad (ws ++ ws9)) (ts ++ z_nts) (vs ++ [.ref H.size]) (1, V.1, z_tS) (.ref H.size) := by
      refine Or.inr (Or.inl ⟨rfl, z_last hv.2.1.1, Or.inr ⟨(q_ad ws).length + 0, H.size, rfl, ?_, ?_⟩⟩)
      · rw [ead]
        obtain ⟨u, hu⟩ := h2
        refine z_getr ?_
        rw [← hu]
        rfl
      · have el : (q_ad ws).length = ts.length := by rw [List.length_map]; exact hw.1.symm
        rw [el]
        exact z_getr rfl
    have key := z_go (n := V.2.2.2.2.2 + 1) (ls := ls) (locs := locs9) (H := H9) hok3 hgx C hp9 hv9 hpv (hL.mono hpv hfr0.2.1 hfr0.1) (sv := .ref H.size :: sv) ⟨hrf, z_Sr.mono hpv hfr0.2.1 hfr0.1 hs⟩ hx hf rfl
    have w1 : 9 * V.2.2.2.2.2 + 1 + (9 - 1) = 9 * (V.2.2.2.2.2 + 1) := by omega
    have w2 : 446 * V.2.2.2.2.2 + rc.2.2 + (446 - 11) = 446 * (V.2.2.2.2.2 + 1) := by omega
    rw [w1, w2]
    exact key
