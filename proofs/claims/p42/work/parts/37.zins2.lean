/-! ===== instruction by instruction: stores, branches, longs ===== -/
def z_txl : List MethodName := [⟨"java/lang/String", "length", "()I"⟩, ⟨"java/lang/String", "charAt", "(I)C"⟩, ⟨"java/lang/String", "indexOf", "(I)I"⟩]
def z_txm (x : Nat) : MethodName := z_txl.getD x ⟨"", "", ""⟩
/-- links of what p1's evaluator doesn't know -/
def z_lnk (i : Nat) (pc ln : Nat) (ins : Instr) (x y z : Nat) : Prop := match ins with
  | .ldc n => z = 99 → ∀ s, y = s + 1 → ln = 2 ∧ (q_y i).cls = "SandNights$Reader" ∧ ((s = 0 ∧ n = 219) ∨ (s = 1 ∧ n = 210))
  | .ldc2_w n => z = 99 ∨ (ln = 3 ∧ Cond.constantLong (q_y i).cls n (z_lcv x) ∈ q_w0)
  | .lconst n => ln = 1 ∧ Int64.ofNat (n : Nat) = z_lcv x
  | .lload_n n => ln = 1 ∧ (n : Nat) = x
  | .lstore_n n => ln = 1 ∧ (n : Nat) = x ∧ x + 1 < q_ml i
  | .lookupswitch df ps => (ps.toList.zip (ps.toList.drop 1)).all (fun (a, next) => a.1 < next.1) = true ∧ 0 ≤ (pc : Int) + df ∧ ∀ o ∈ ps.toList, 0 ≤ o.1 ∧ o.1 < 2147483648 ∧ 0 ≤ (pc : Int) + o.2
  | .laload | .lastore | .lcmp | .i2l | .i2c | .lmul | .ladd | .lor | .lshl => ln = 1
  | .invokevirtual n => z = 99 → y = 88 → ln = 3 ∧ x < 3 ∧ Cond.methodLink (q_y i).cls n (z_txm x) ∈ q_w0
  | _ => True
section ZB
variable {p : Program} {l : Launch} {e : Env} {R : Room} {s : State} {m : MethodId} {args : Array Value} {below : List Frame} {meth : Method} {c : Code} {H : Heap} {locs : List Loc} {cells slots : Nat} {Q : State → Prop} {cc : ByteArray} {pc : Nat} {ls : Array Slot} {rest : List Value}
theorem z_icmp (hexec : p.tables.exec = Jvm.exec) (hb : c.code = cc) {cd : ClassFile.Cond} {x y : Int32} {off : Int} {tgt : Nat} (hdg : decode cc pc = .ok (.if_icmp cd off, 3)) (ht : (pc : Int) + off = (tgt : Int)) (kt : z_cmp cd x y → W p l e R s m args below meth c H locs cells slots Q (F0 m tgt ls rest)) (kf : z_cmp (z_ng cd) x y → W p l e R s m args below meth c H locs cells slots Q (F0 m (pc + 3) ls rest)) : W p l e R s m args below meth c H locs cells slots Q (F0 m pc ls (.int y :: .int x :: rest)) := by
  cases cd with
  | eq => exact lv_icmp_eq hexec hb hdg ht kt kf
  | ne => exact lv_icmp_ne hexec hb hdg ht kt kf
  | lt => exact lv_icmp_lt hexec hb hdg ht kt (fun h => kf (Int32.not_lt.mp h))
  | ge => exact lv_icmp_ge hexec hb hdg ht kt (fun h => kf (Int32.not_le.mp h))
  | gt => exact lv_icmp_gt hexec hb hdg ht kt (fun h => kf (Int32.not_lt.mp h))
  | le => exact lv_icmp_le hexec hb hdg ht kt (fun h => kf (Int32.not_le.mp h))
theorem z_ifc (hexec : p.tables.exec = Jvm.exec) (hb : c.code = cc) {cd : ClassFile.Cond} {x : Int32} {off : Int} {tgt : Nat} (hdg : decode cc pc = .ok (.ifCond cd off, 3)) (ht : (pc : Int) + off = (tgt : Int)) (kt : z_cmp cd x 0 → W p l e R s m args below meth c H locs cells slots Q (F0 m tgt ls rest)) (kf : z_cmp (z_ng cd) x 0 → W p l e R s m args below meth c H locs cells slots Q (F0 m (pc + 3) ls rest)) : W p l e R s m args below meth c H locs cells slots Q (F0 m pc ls (.int x :: rest)) := by
  cases cd with
  | eq => exact lv_if_eq hexec hb hdg ht kt kf
  | ne => exact lv_if_ne hexec hb hdg ht kt kf
  | lt => exact lv_if_lt hexec hb hdg ht kt (fun h => kf (Int32.not_lt.mp h))
  | ge => exact lv_if_ge hexec hb hdg ht kt (fun h => kf (Int32.not_le.mp h))
  | gt => exact lv_if_gt hexec hb hdg ht kt (fun h => kf (Int32.not_lt.mp h))
  | le => exact lv_if_le hexec hb hdg ht kt (fun h => kf (Int32.not_le.mp h))
end ZB
theorem z_cx0 {sa : Nat → Nat} {ad ts : List Nat} {V : z_V} {vs : List Value} (hE : z_E V vs) : z_v sa ad ts vs (0, 0, 2147483648) (.int 0) := by
  have := z_v.mkcon (sa := sa) (ad := ad) (ts := ts) hE (y := 0)
  rw [z_qb0] at this
  exact this
section ZI
variable {l : Launch} {base : Nat} {D : va_G} {sa : Nat → Nat} {g : z_G} {J : va_W → List Nat → Prop} {ih : z_F} {d : Nat × Nat} {i pc ln x y z : Nat} {tl : List q_I} {V : z_V} {L st : List z_C} {sp : List Nat} {cx : List z_X} {os : List z_O}
/-- both roads behind a comparison -/
theorem z_two {cd : ClassFile.Cond} {a b : z_C} {r : List z_C} {pc' : Nat} (hr : z_cas V ih d i (q_code i) tl L r sp cx cd a b x = some os) (hgx : z_gx cx) (hN : z_HN l base D sa g J ih d i pc' tl sp) (hJ : z_HJ l base D sa g J ih d i sp) {p : Program} {e : Env} {s : State} {m : MethodId} {args : Array Value} {below : List Frame} {meth : Method} {c : Code} {Q : State → Prop} {w0 : va_W} {t0 : List Nat} {vs0 : List Value} {H : Heap} {locs : List Loc} {ls : Array Slot} {sv : List Value} {ws : va_W} {tys : List (ClassId × FieldType)} {ts : List Nat} {vs : List Value} {va vb : Value}
    (C : z_Cx base sa g.2.1 J i p s m args meth c w0 t0) (hp : z_Hp base D g.1 g.2.1 s w0 t0 H locs ws tys ts) (hv : z_Sv sa g.1 vs0 ws ts V vs) (hL : z_Lr sa (q_ad ws) ts vs L (q_ml i) ls) (hva : z_v sa (q_ad ws) ts vs a va) (hvb : z_v sa (q_ad ws) ts vs b vb) (kb : b.1 = 0) (hs : z_Sr sa (q_ad ws) ts vs r sv) (hx : ∀ X ∈ cx, z_Hy l base D sa g d i p e s m args below meth c Q w0 t0 vs0 X vs) (hf : ∀ o ∈ os, z_Fi l base D sa g d i p e s m args below meth c Q w0 t0 vs0 o) :
    ∃ xa xb, va = .int xa ∧ vb = .int xb ∧ (z_cmp cd xa xb → W p l e (q_rm d.1 (9 * d.2) (446 * d.2)) s m args below meth c H locs (9 * V.2.2.2.2.2) (446 * V.2.2.2.2.2) Q (F0 m x ls sv)) ∧ (z_cmp (z_ng cd) xa xb → W p l e (q_rm d.1 (9 * d.2) (446 * d.2)) s m args below meth c H locs (9 * V.2.2.2.2.2) (446 * V.2.2.2.2.2) Q (F0 m pc' ls sv)) := by
  unfold z_cas at hr
  obtain ⟨_, xb, -, rfl, -⟩ := id (hvb.int kb)
  cases h1 : Nat.beq a.1 0 with
  | true =>
    rw [q_ift _ _ h1] at hr
    have ka := q_beq.mp h1
    obtain ⟨_, xa, -, rfl, -⟩ := id (hva.int ka)
    obtain ⟨o1, o2, h2, h3, rfl⟩ := z_app_inv hr
    refine ⟨xa, xb, rfl, rfl, fun hc => ?_, fun hc => ?_⟩
    · obtain ⟨V1, v1, v2, v3, v4⟩ := z_cs_s hv.2.1 ka kb hva hvb hc
      obtain ⟨o3, h4, h5⟩ := z_fold_inv h2 V1 v1
      exact z_go (hJ x V1 L r cx o3 hgx h4) hgx C hp (hv.ext List.prefix_rfl v2 v4) List.prefix_rfl hL hs hx (fun o ho => hf o (List.mem_append_left _ (h5 o ho))) (by rw [v4])
    · obtain ⟨V1, v1, v2, v3, v4⟩ := z_cs_s hv.2.1 ka kb hva hvb hc
      obtain ⟨o3, h4, h5⟩ := z_fold_inv h3 V1 v1
      exact z_go (hN V1 L r cx o3 hgx h4) hgx C hp (hv.ext List.prefix_rfl v2 v4) List.prefix_rfl hL hs hx (fun o ho => hf o (List.mem_append_right _ (h5 o ho))) (by rw [v4])
  | false =>
    rw [q_iff _ _ h1] at hr
    obtain ⟨g2, hr2⟩ := q_bifs hr
    clear hr
    obtain ⟨g3, g4⟩ := q_ands g2
    obtain ⟨g5, g6⟩ := q_ands g4
    obtain ⟨g7, g8⟩ := q_ands g6
    have h2 := q_beq.mp g3
    have h3 := q_ble.mp g5
    have h4 := q_ble.mp g7
    have h5 := z_ceq_eq g8
    subst h5
    obtain ⟨y0, ey, ey2⟩ := hvb.con hv.2.1
    cases ey
    have e0 : xb = 0 := (q_eq_iff xb 0).mpr (by rw [ey2, z_qb0])
    subst e0
    rcases hva.two h2 with ⟨h6, _⟩ | ⟨k, xl, xa, h6, h7, rfl, h8⟩
    · omega
    · have hE1 : xl = z_lcv k → z_Sv sa g.1 vs0 ws ts (V.1, q_set V.2.1 a.2.1 a.2.2, V.2.2) vs := fun e => hv.ext List.prefix_rfl (hv.2.1.near1 (by omega) (fun v hv9 => by
        rw [h7] at hv9
        cases hv9
        exact Or.inr (by rw [h6]; exact e)) rfl) rfl
      refine ⟨xa, 0, rfl, rfl, ?_⟩
      cases cd with
      | eq =>
        obtain ⟨o1, o2, h9, h10, rfl⟩ := z_app_inv hr2
        exact ⟨fun hc => z_go (hJ x _ L r cx o1 hgx h9) hgx C hp (hE1 (h8.mp hc)) List.prefix_rfl hL hs hx (fun o ho => hf o (List.mem_append_left _ ho)) rfl, fun _ => z_go (hN _ L r cx o2 hgx h10) hgx C hp hv List.prefix_rfl hL hs hx (fun o ho => hf o (List.mem_append_right _ ho)) rfl⟩
      | ne =>
        obtain ⟨o1, o2, h9, h10, rfl⟩ := z_app_inv hr2
        exact ⟨fun _ => z_go (hJ x _ L r cx o1 hgx h9) hgx C hp hv List.prefix_rfl hL hs hx (fun o ho => hf o (List.mem_append_left _ ho)) rfl, fun hc => z_go (hN _ L r cx o2 hgx h10) hgx C hp (hE1 (h8.mp hc)) List.prefix_rfl hL hs hx (fun o ho => hf o (List.mem_append_right _ ho)) rfl⟩
      | lt => cases hr2
      | ge => cases hr2
      | gt => cases hr2
      | le => cases hr2
theorem z_s_ldc {n : Nat} (hk2 : z_lnk i pc ln (.ldc n) x y z) (hd : decode (q_b i) pc = .ok (.ldc n, ln)) (hk : q_lnk i pc ln (.ldc n) x y z) (hgx : z_gx cx) (hN : z_HN l base D sa g J ih d i (pc + ln) tl sp) (hr : z_step g q_code ih d i (q_code i) pc (.ldc n) x y z tl V L st sp cx = some os) : z_Ok l base D sa g J d i pc V L st cx os := by
  cases hz : Nat.beq z 99 with
  | false =>
    have hr : (bif Nat.beq z 99 then Nat.rec none (fun s _ => ih d i (q_code i) tl V L ((4, 0, s) :: st) sp cx) y else ih d i (q_code i) tl V L ((0, 0, q_bi x) :: st) sp cx) = some os := hr
    rw [q_iff _ _ hz] at hr
    rcases hk with hk | ⟨e1, e2, e3⟩
    · exact absurd hk (q_bneq.mp hz)
    subst e1
    have hg := hN V L ((0, 0, q_bi x) :: st) cx os hgx hr
    intro p e s m args below meth c Q w0 t0 vs0 H locs ls sv ws tys ts vs C hp hv hL hs hx hf
    exact lv_ldc C.1.1 C.1.2.1 C.1.2.2.2.2.1 (C.1.2.2.2.2.2.1 _ e3) hd (z_go hg hgx C hp hv List.prefix_rfl hL (sv := .int (nI x) :: sv) ⟨by rw [← q_qb_nI e2]; exact z_v.mkcon hv.2.1, hs⟩ hx hf rfl)
  | true =>
    have hr : (bif Nat.beq z 99 then Nat.rec none (fun s _ => ih d i (q_code i) tl V L ((4, 0, s) :: st) sp cx) y else ih d i (q_code i) tl V L ((0, 0, q_bi x) :: st) sp cx) = some os := hr
    rw [q_ift _ _ hz] at hr
    cases y with
    | zero => cases hr
    | succ t =>
      have hr : ih d i (q_code i) tl V L ((4, 0, t) :: st) sp cx = some os := hr
      obtain ⟨e1, e2, e3⟩ := hk2 (q_beq.mp hz) t rfl
      subst e1
      have hg := hN V L _ cx os hgx hr
      intro p e s m args below meth c Q w0 t0 vs0 H locs ls sv ws tys ts vs C hp hv hL hs hx hf
      have hown := C.1.2.2.2.2.1
      rw [e2] at hown
      obtain ⟨-, c1, c2, -⟩ := C.2.1
      rcases e3 with ⟨rfl, rfl⟩ | ⟨rfl, rfl⟩
      · exact va_ldcS C.1.1 C.1.2.1 hown c1 hd (z_go hg hgx C hp hv List.prefix_rfl hL (sv := .ref (sa 0) :: sv) ⟨Or.inr (Or.inr (Or.inr (Or.inr ⟨rfl, rfl⟩))), hs⟩ hx hf rfl)
      · exact va_ldcS C.1.1 C.1.2.1 hown c2 hd (z_go hg hgx C hp hv List.prefix_rfl hL (sv := .ref (sa 1) :: sv) ⟨Or.inr (Or.inr (Or.inr (Or.inr ⟨rfl, rfl⟩))), hs⟩ hx hf rfl)
theorem z_s_istore {n : Nat} (hd : decode (q_b i) pc = .ok (.istore n, ln)) (hk : q_lnk i pc ln (.istore n) x y z) (hgx : z_gx cx) (hN : z_HN l base D sa g J ih d i (pc + ln) tl sp) (hr : z_step g q_code ih d i (q_code i) pc (.istore n) x y z tl V L st sp cx = some os) : z_Ok l base D sa g J d i pc V L st cx os := by
  obtain ⟨e1, e2, e3⟩ := hk
  subst e1
  subst e2
  match st, hr with
  | [], hr => cases hr
  | a :: r, hr =>
    have hr : (bif Nat.beq a.1 0 then ih d i (q_code i) tl V (z_st1 L n a) r sp cx else none) = some os := hr
    obtain ⟨h1, hr⟩ := q_bifs hr
    have ka := q_beq.mp h1
    have hg := hN V _ r cx os hgx hr
    intro p e s m args below meth c Q w0 t0 vs0 H locs ls sv ws tys ts vs C hp hv hL hs hx hf
    obtain ⟨va, sv1, rfl, hva, hs1⟩ := hs.cons
    obtain ⟨_, xa, -, rfl, -⟩ := id (hva.int ka)
    obtain ⟨l1, lv, l2, l3⟩ := hL
    exact lv_istore C.1.1 C.1.2.1 hd l2 e3 rfl (fun ls2 hl2 => z_go hg hgx C hp hv List.prefix_rfl (z_Lr.store l1 l3 hva hl2) hs1 hx hf rfl)
theorem z_s_istore_n {n : Fin 4} (hd : decode (q_b i) pc = .ok (.istore_n n, ln)) (hk : q_lnk i pc ln (.istore_n n) x y z) (hgx : z_gx cx) (hN : z_HN l base D sa g J ih d i (pc + ln) tl sp) (hr : z_step g q_code ih d i (q_code i) pc (.istore_n n) x y z tl V L st sp cx = some os) : z_Ok l base D sa g J d i pc V L st cx os := by
  obtain ⟨e1, e2, e3⟩ := hk
  subst e1
  match st, hr with
  | [], hr => cases hr
  | a :: r, hr =>
    have hr : (bif Nat.beq a.1 0 then ih d i (q_code i) tl V (z_st1 L x a) r sp cx else none) = some os := hr
    obtain ⟨h1, hr⟩ := q_bifs hr
    have ka := q_beq.mp h1
    have hg := hN V _ r cx os hgx hr
    intro p e s m args below meth c Q w0 t0 vs0 H locs ls sv ws tys ts vs C hp hv hL hs hx hf
    obtain ⟨va, sv1, rfl, hva, hs1⟩ := hs.cons
    obtain ⟨_, xa, -, rfl, -⟩ := id (hva.int ka)
    obtain ⟨l1, lv, l2, l3⟩ := hL
    exact lv_istore_n C.1.1 C.1.2.1 hd e2 l2 e3 rfl (fun ls2 hl2 => z_go hg hgx C hp hv List.prefix_rfl (z_Lr.store l1 l3 hva hl2) hs1 hx hf rfl)
theorem z_s_astore {n : Nat} (hd : decode (q_b i) pc = .ok (.astore n, ln)) (hk : q_lnk i pc ln (.astore n) x y z) (hgx : z_gx cx) (hN : z_HN l base D sa g J ih d i (pc + ln) tl sp) (hr : z_step g q_code ih d i (q_code i) pc (.astore n) x y z tl V L st sp cx = some os) : z_Ok l base D sa g J d i pc V L st cx os := by
  obtain ⟨e1, e2, e3⟩ := hk
  subst e1
  subst e2
  match st, hr with
  | [], hr => cases hr
  | a :: r, hr =>
    have hr : (bif Nat.beq a.1 1 || (Nat.beq a.1 2 && Nat.beq a.2.2 0) then ih d i (q_code i) tl V (z_st1 L n a) r sp cx else none) = some os := hr
    obtain ⟨h1, hr⟩ := q_bifs hr
    have h1 : a.1 = 1 ∨ (a.1 = 2 ∧ a.2.2 = 0) := by
      rcases q_ors h1 with h1 | h1
      · exact Or.inl (q_beq.mp h1)
      · exact Or.inr ⟨q_beq.mp (q_ands h1).1, q_beq.mp (q_ands h1).2⟩
    have hg := hN V _ r cx os hgx hr
    intro p e s m args below meth c Q w0 t0 vs0 H locs ls sv ws tys ts vs C hp hv hL hs hx hf
    obtain ⟨va, sv1, rfl, hva, hs1⟩ := hs.cons
    obtain ⟨l1, lv, l2, l3⟩ := hL
    rcases hva.obj h1 with rfl | ⟨q, rfl⟩
    · exact lv_astoreN C.1.1 C.1.2.1 hd l2 e3 rfl (fun ls2 hl2 => z_go hg hgx C hp hv List.prefix_rfl (z_Lr.store l1 l3 hva hl2) hs1 hx hf rfl)
    · exact lv_astore C.1.1 C.1.2.1 hd l2 e3 rfl (fun ls2 hl2 => z_go hg hgx C hp hv List.prefix_rfl (z_Lr.store l1 l3 hva hl2) hs1 hx hf rfl)
theorem z_s_astore_n {n : Fin 4} (hd : decode (q_b i) pc = .ok (.astore_n n, ln)) (hk : q_lnk i pc ln (.astore_n n) x y z) (hgx : z_gx cx) (hN : z_HN l base D sa g J ih d i (pc + ln) tl sp) (hr : z_step g q_code ih d i (q_code i) pc (.astore_n n) x y z tl V L st sp cx = some os) : z_Ok l base D sa g J d i pc V L st cx os := by
  obtain ⟨e1, e2, e3⟩ := hk
  subst e1
  match st, hr with
  | [], hr => cases hr
  | a :: r, hr =>
    have hr : (bif Nat.beq a.1 1 || (Nat.beq a.1 2 && Nat.beq a.2.2 0) then ih d i (q_code i) tl V (z_st1 L x a) r sp cx else none) = some os := hr
    obtain ⟨h1, hr⟩ := q_bifs hr
    have h1 : a.1 = 1 ∨ (a.1 = 2 ∧ a.2.2 = 0) := by
      rcases q_ors h1 with h1 | h1
      · exact Or.inl (q_beq.mp h1)
      · exact Or.inr ⟨q_beq.mp (q_ands h1).1, q_beq.mp (q_ands h1).2⟩
    have hg := hN V _ r cx os hgx hr
    intro p e s m args below meth c Q w0 t0 vs0 H locs ls sv ws tys ts vs C hp hv hL hs hx hf
    obtain ⟨va, sv1, rfl, hva, hs1⟩ := hs.cons
    obtain ⟨l1, lv, l2, l3⟩ := hL
    rcases hva.obj h1 with rfl | ⟨q, rfl⟩
    · exact lv_astore_nN C.1.1 C.1.2.1 hd e2 l2 e3 rfl (fun ls2 hl2 => z_go hg hgx C hp hv List.prefix_rfl (z_Lr.store l1 l3 hva hl2) hs1 hx hf rfl)
    · exact lv_astore_n C.1.1 C.1.2.1 hd e2 l2 e3 rfl (fun ls2 hl2 => z_go hg hgx C hp hv List.prefix_rfl (z_Lr.store l1 l3 hva hl2) hs1 hx hf rfl)
theorem z_s_iinc {n : Nat} {k : Int} (hd : decode (q_b i) pc = .ok (.iinc n k, ln)) (hk : q_lnk i pc ln (.iinc n k) x y z) (hgx : z_gx cx) (hN : z_HN l base D sa g J ih d i (pc + ln) tl sp) (hr : z_step g q_code ih d i (q_code i) pc (.iinc n k) x y z tl V L st sp cx = some os) : z_Ok l base D sa g J d i pc V L st cx os := by
  obtain ⟨e1, e2, e3, e4, e5⟩ := hk
  subst e1
  subst e2
  have hr : (bif Nat.beq (z_nth L n).1 0 then z_oadd V (z_nth L n) (0, 0, q_bi y) (fun w e => ih d i (q_code i) tl w (z_st1 L n e) st sp cx) else none) = some os := hr
  obtain ⟨h1, hr⟩ := q_bifs hr
  have ka := q_beq.mp h1
  intro p e s m args below meth c Q w0 t0 vs0 H locs ls sv ws tys ts vs C hp hv hL hs hx hf
  obtain ⟨l1, lv, l2, l3⟩ := id hL
  rcases l3 n _ (z_nth_at rfl (by omega)) with h9 | ⟨v, hv1, hv2⟩
  · omega
  obtain ⟨_, xa, -, rfl, -⟩ := id (hv2.int ka)
  obtain ⟨kk, hkk⟩ := List.getElem?_of_mem hv1
  have hres : z_Res sa (q_ad ws) ts V vs (fun w e => ih d i (q_code i) tl w (z_st1 L n e) st sp cx) os (.int (xa + Int32.ofInt k)) := z_oadd_s hr hv.2.1 ka rfl hv2 (by rw [e5, ← q_qb_nI e4]; exact z_v.mkcon hv.2.1)
  obtain ⟨W1, c1, vs1, k1, k2, k3, k4, k5⟩ := hres
  have hg := hN W1 _ st cx os hgx k1
  refine lv_iinc C.1.1 C.1.2.1 hd l2 hkk rfl e3 rfl (fun ls2 hl2 => z_go hg hgx C hp (hv.ext k2 k3 k4) k2 (z_Lr.store l1 (fun j c hc => ?_) k5 hl2) (z_Sr.mono k2 List.prefix_rfl List.prefix_rfl hs) hx hf (by rw [k4]))
  rcases l3 j c hc with h5 | ⟨w, h5, h6⟩
  · exact Or.inl h5
  · exact Or.inr ⟨w, h5, h6.mono k2 List.prefix_rfl List.prefix_rfl⟩
theorem z_s_if_icmp {cd : ClassFile.Cond} {off : Int} (hd : decode (q_b i) pc = .ok (.if_icmp cd off, ln)) (hk : q_lnk i pc ln (.if_icmp cd off) x y z) (hgx : z_gx cx) (hN : z_HN l base D sa g J ih d i (pc + ln) tl sp) (hJ : z_HJ l base D sa g J ih d i sp) (hr : z_step g q_code ih d i (q_code i) pc (.if_icmp cd off) x y z tl V L st sp cx = some os) : z_Ok l base D sa g J d i pc V L st cx os := by
  obtain ⟨e1, e2⟩ := hk
  subst e1
  have hr : z_bin st (fun a b r => z_cas V ih d i (q_code i) tl L r sp cx cd a b x) = some os := hr
  obtain ⟨b, a, r, rfl, ka, kb, hr⟩ := z_bin_inv hr
  intro p e s m args below meth c Q w0 t0 vs0 H locs ls sv ws tys ts vs C hp hv hL hs hx hf
  obtain ⟨vb, sv1, rfl, hvb, hs1⟩ := hs.cons
  obtain ⟨va, sv2, rfl, hva, hs2⟩ := hs1.cons
  obtain ⟨xa, xb, rfl, rfl, k1, k2⟩ := z_two hr hgx hN hJ C hp hv hL hva hvb kb hs2 hx hf
  exact z_icmp C.1.1 C.1.2.1 hd e2 k1 k2
theorem z_s_ifCond {cd : ClassFile.Cond} {off : Int} (hd : decode (q_b i) pc = .ok (.ifCond cd off, ln)) (hk : q_lnk i pc ln (.ifCond cd off) x y z) (hgx : z_gx cx) (hN : z_HN l base D sa g J ih d i (pc + ln) tl sp) (hJ : z_HJ l base D sa g J ih d i sp) (hr : z_step g q_code ih d i (q_code i) pc (.ifCond cd off) x y z tl V L st sp cx = some os) : z_Ok l base D sa g J d i pc V L st cx os := by
  obtain ⟨e1, e2⟩ := hk
  subst e1
  match st, hr with
  | [], hr => cases hr
  | a :: r, hr =>
    have hr : z_cas V ih d i (q_code i) tl L r sp cx cd a (0, 0, 2147483648) x = some os := hr
    intro p e s m args below meth c Q w0 t0 vs0 H locs ls sv ws tys ts vs C hp hv hL hs hx hf
    obtain ⟨va, sv1, rfl, hva, hs1⟩ := hs.cons
    obtain ⟨xa, xb, rfl, h0, k1, k2⟩ := z_two hr hgx hN hJ C hp hv hL hva (z_cx0 hv.2.1) rfl hs1 hx hf
    cases h0
    exact z_ifc C.1.1 C.1.2.1 hd e2 k1 k2
theorem z_s_ifnull {off : Int} (hd : decode (q_b i) pc = .ok (.ifnull off, ln)) (hk : q_lnk i pc ln (.ifnull off) x y z) (hgx : z_gx cx) (hN : z_HN l base D sa g J ih d i (pc + ln) tl sp) (hJ : z_HJ l base D sa g J ih d i sp) (hr : z_step g q_code ih d i (q_code i) pc (.ifnull off) x y z tl V L st sp cx = some os) : z_Ok l base D sa g J d i pc V L st cx os := by
  obtain ⟨e1, e2⟩ := hk
  subst e1
  match st, hr with
  | [], hr => cases hr
  | a :: r, hr =>
    have hr : (bif z_nn V a then ih d i (q_code i) tl V L r sp cx else bif Nat.beq a.1 1 then z_app (ih d i (q_code i) (q_jm (q_code i) x) V L r sp cx) (ih d i (q_code i) tl (V.1, q_set V.2.1 a.2.1 1, V.2.2) L r sp cx) else none) = some os := hr
    cases hb : z_nn V a with
    | true =>
      rw [q_ift _ _ hb] at hr
      have hg := hN V L r cx os hgx hr
      intro p e s m args below meth c Q w0 t0 vs0 H locs ls sv ws tys ts vs C hp hv hL hs hx hf
      obtain ⟨va, sv1, rfl, hva, hs1⟩ := hs.cons
      obtain ⟨q, j, rfl, -⟩ := hva.nonnull hv.2.1 hb
      exact lv_ifnull C.1.1 C.1.2.1 hd (z_go hg hgx C hp hv List.prefix_rfl hL hs1 hx hf rfl)
    | false =>
      rw [q_iff _ _ hb] at hr
      obtain ⟨h1, hr⟩ := q_bifs hr
      have ka := q_beq.mp h1
      obtain ⟨o1, o2, h3, h4, rfl⟩ := z_app_inv hr
      intro p e s m args below meth c Q w0 t0 vs0 H locs ls sv ws tys ts vs C hp hv hL hs hx hf
      obtain ⟨va, sv1, rfl, hva, hs1⟩ := hs.cons
      obtain ⟨h5, h6⟩ := hva.ref ka
      rcases h6 with rfl | ⟨j, q, rfl, h7, h8⟩
      · exact lv_ifnullN C.1.1 C.1.2.1 hd e2 (z_go (hJ x V L r cx o1 hgx h3) hgx C hp hv List.prefix_rfl hL hs1 hx (fun o ho => hf o (List.mem_append_left _ ho)) rfl)
      · refine lv_ifnull C.1.1 C.1.2.1 hd (z_go (hN _ L r cx o2 hgx h4) hgx C hp (hv.ext List.prefix_rfl (hv.2.1.near1 (by decide) (fun v hv9 => ?_) rfl) rfl) List.prefix_rfl hL hs1 hx (fun o ho => hf o (List.mem_append_right _ ho)) rfl)
        rw [h5] at hv9
        cases hv9
        exact trivial
theorem z_s_ifnonnull {off : Int} (hd : decode (q_b i) pc = .ok (.ifnonnull off, ln)) (hk : q_lnk i pc ln (.ifnonnull off) x y z) (hgx : z_gx cx) (hN : z_HN l base D sa g J ih d i (pc + ln) tl sp) (hJ : z_HJ l base D sa g J ih d i sp) (hr : z_step g q_code ih d i (q_code i) pc (.ifnonnull off) x y z tl V L st sp cx = some os) : z_Ok l base D sa g J d i pc V L st cx os := by
  obtain ⟨e1, e2⟩ := hk
  subst e1
  match st, hr with
  | [], hr => cases hr
  | a :: r, hr =>
    have hr : (bif z_nn V a then ih d i (q_code i) (q_jm (q_code i) x) V L r sp cx else bif Nat.beq a.1 1 then z_app (ih d i (q_code i) (q_jm (q_code i) x) (V.1, q_set V.2.1 a.2.1 1, V.2.2) L r sp cx) (ih d i (q_code i) tl V L r sp cx) else none) = some os := hr
    cases hb : z_nn V a with
    | true =>
      rw [q_ift _ _ hb] at hr
      have hg := hJ x V L r cx os hgx hr
      intro p e s m args below meth c Q w0 t0 vs0 H locs ls sv ws tys ts vs C hp hv hL hs hx hf
      obtain ⟨va, sv1, rfl, hva, hs1⟩ := hs.cons
      obtain ⟨q, j, rfl, -⟩ := hva.nonnull hv.2.1 hb
      exact lv_ifnonnull C.1.1 C.1.2.1 hd e2 (z_go hg hgx C hp hv List.prefix_rfl hL hs1 hx hf rfl)
    | false =>
      rw [q_iff _ _ hb] at hr
      obtain ⟨h1, hr⟩ := q_bifs hr
      have ka := q_beq.mp h1
      obtain ⟨o1, o2, h3, h4, rfl⟩ := z_app_inv hr
      intro p e s m args below meth c Q w0 t0 vs0 H locs ls sv ws tys ts vs C hp hv hL hs hx hf
      obtain ⟨va, sv1, rfl, hva, hs1⟩ := hs.cons
      obtain ⟨h5, h6⟩ := hva.ref ka
      rcases h6 with rfl | ⟨j, q, rfl, h7, h8⟩
      · exact lv_ifnonnullN C.1.1 C.1.2.1 hd (z_go (hN V L r cx o2 hgx h4) hgx C hp hv List.prefix_rfl hL hs1 hx (fun o ho => hf o (List.mem_append_right _ ho)) rfl)
      · refine lv_ifnonnull C.1.1 C.1.2.1 hd e2 (z_go (hJ x _ L r cx o1 hgx h3) hgx C hp (hv.ext List.prefix_rfl (hv.2.1.near1 (by decide) (fun v hv9 => ?_) rfl) rfl) List.prefix_rfl hL hs1 hx (fun o ho => hf o (List.mem_append_left _ ho)) rfl)
        rw [h5] at hv9
        cases hv9
        exact trivial
end ZI
