/-! ===== call instructions ===== -/
theorem z_Sr.app {sa : Nat → Nat} {ad ts : List Nat} {vs : List Value} : ∀ {a : List z_C} {u : List Value} {b : List z_C} {v : List Value}, z_Sr sa ad ts vs a u → z_Sr sa ad ts vs b v → z_Sr sa ad ts vs (a ++ b) (u ++ v)
  | [], [], _, _, _, h => h
  | _ :: _, _ :: _, _, _, h1, h => ⟨h1.1, z_Sr.app h1.2 h⟩
  | [], _ :: _, _, _, h1, _ => h1.elim
  | _ :: _, [], _, _, h1, _ => h1.elim
theorem z_Sr.rev {sa : Nat → Nat} {ad ts : List Nat} {vs : List Value} : ∀ {a : List z_C} {u : List Value}, z_Sr sa ad ts vs a u → z_Sr sa ad ts vs a.reverse u.reverse
  | [], [], _ => trivial
  | c :: a, v :: u, h => by
    rw [List.reverse_cons, List.reverse_cons]
    exact z_Sr.app (z_Sr.rev h.2) ⟨h.1, trivial⟩
  | [], _ :: _, h1 => h1.elim
  | _ :: _, [], h1 => h1.elim
theorem z_Sr.split {sa : Nat → Nat} {ad ts : List Nat} {vs : List Value} : ∀ {a b : List z_C} {sv : List Value}, z_Sr sa ad ts vs (a ++ b) sv → ∃ u v, sv = u ++ v ∧ z_Sr sa ad ts vs a u ∧ z_Sr sa ad ts vs b v
  | [], b, sv, h => ⟨[], sv, rfl, trivial, h⟩
  | c :: a, b, sv, h => by
    obtain ⟨v, sv', rfl, h1, h2⟩ := z_Sr.cons (st := a ++ b) h
    obtain ⟨u, w, rfl, h3, h4⟩ := z_Sr.split h2
    exact ⟨v :: u, w, rfl, ⟨h1, h3⟩, h4⟩
theorem z_Sr.len {sa : Nat → Nat} {ad ts : List Nat} {vs : List Value} {a : List z_C} {u : List Value} (h : z_Sr sa ad ts vs a u) : u.length = a.length := h.cats.1
theorem z_pp_inv : ∀ (n : Nat) (st acc as rr : List z_C), z_pp n st acc = some (as, rr) → ∃ pre, st = pre ++ rr ∧ pre.length = n ∧ as = pre.reverse ++ acc
  | 0, st, acc, as, rr, h => by
    have h : some (acc, st) = some (as, rr) := h
    obtain ⟨rfl, rfl⟩ := Prod.mk.inj (Option.some.inj h)
    exact ⟨[], rfl, rfl, rfl⟩
  | n + 1, [], acc, as, rr, h => by cases h
  | n + 1, a :: st, acc, as, rr, h => by
    have h : z_pp n st (a :: acc) = some (as, rr) := h
    obtain ⟨pre, e1, e2, e3⟩ := z_pp_inv n st (a :: acc) as rr h
    exact ⟨a :: pre, by rw [e1]; rfl, by rw [List.length_cons, e2], by rw [e3]; simp⟩
section ZI
variable {l : Launch} {base : Nat} {D : va_G} {sa : Nat → Nat} {g : z_G} {J : va_W → List Nat → Prop} {ih : z_F} {d : Nat × Nat} {i pc ln x y z : Nat} {tl : List q_I} {V : z_V} {L st : List z_C} {sp : List Nat} {cx : List z_X} {os : List z_O}
theorem z_inv_inv {virt : Bool} (hr : z_inv g q_code ih d i (q_code i) tl V L x y z st sp cx virt = some os) : ¬ z = 99 ∧ ∃ pre rr : List z_C, st = pre ++ rr ∧ pre.length = y ∧ z_cats rr ≤ 8 ∧ (z_sl pre.reverse).length ≤ q_ml x ∧ (virt = true → ∃ a t, pre.reverse = a :: t ∧ z_nn V a = true ∧ (g.1 a.2.2).1 = 0 ∧ (g.1 a.2.2).2.1 = z) ∧ z_cal g q_code ih d x pre.reverse V (fun w rt => ih d i (q_code i) tl w L (rt ++ rr) sp cx) = some os := by
  unfold z_inv at hr
  obtain ⟨hz9, hr⟩ := q_bifn hr
  refine ⟨q_bneq.mp hz9, ?_⟩
  cases hpp : z_pp y st [] with
  | none => rw [hpp] at hr; cases hr
  | some ar =>
    obtain ⟨as, rr⟩ := ar
    rw [hpp] at hr
    obtain ⟨pre, e1, e2, e3⟩ := z_pp_inv y st [] as rr hpp
    rw [List.append_nil] at e3
    subst e3
    obtain ⟨h1, h2⟩ := q_bifs hr
    obtain ⟨h1, h3⟩ := q_ands h1
    obtain ⟨h1, h4⟩ := q_ands h1
    have h1 := q_ble.mp h1
    have h4 := q_ble.mp h4
    rw [q_len_eq] at h4
    refine ⟨pre, rr, e1, e2, h1, h4, fun hv => ?_, h2⟩
    subst hv
    cases hpr : pre.reverse with
    | nil => rw [hpr] at h3; cases h3
    | cons a t =>
      rw [hpr] at h3
      have h3 : (z_nn V a && (Nat.beq (g.1 a.2.2).1 0 && Nat.beq (g.1 a.2.2).2.1 z)) = true := h3
      obtain ⟨h5, h6⟩ := q_ands h3
      obtain ⟨h6, h7⟩ := q_ands h6
      exact ⟨a, t, rfl, h5, q_beq.mp h6, q_beq.mp h7⟩
/-- behind the call: the caller goes on -/
theorem z_fin {rr : List z_C} {dd : Nat × Nat} {kc : List z_C} {post : Option Value → va_W → List Nat → Prop} {p : Program} {e : Env} {s : State} {m : MethodId} {args : Array Value} {below : List Frame} {meth : Method} {c : Code} {Q : State → Prop} {w0 : va_W} {t0 : List Nat} {vs0 : List Value} {H : Heap} {locs : List Loc} {ls : Array Slot} {sv rv : List Value} {ws : va_W} {tys : List (ClassId × FieldType)} {ts : List Nat} {vs : List Value} {a : Array Value} (hgx : z_gx cx) (hN : z_HN l base D sa g J ih d i (pc + 3) tl sp) (hkc : ∀ t n, z_wr kc t n → z_wr g.2.1 t n)
    (haf : ∀ (v : Option Value) (ws' : va_W) (ts' : List Nat), va_D (q_A base) ws' → z_Fr kc ws ts ws' ts' → post v ws' ts' → ∃ U rt o1 vs', ih d i (q_code i) tl U L (rt ++ rr) sp cx = some o1 ∧ (∀ o ∈ o1, o ∈ os) ∧ vs <+: vs' ∧ z_Sv sa g.1 vs0 ws' ts' U vs' ∧ U.2.2.2.2.2 = V.2.2.2.2.2 + dd.2 ∧ z_Sr sa (q_ad ws') ts' vs' rt v.toList)
    (C : z_Cx base sa g.2.1 J i p s m args meth c w0 t0) (hp : z_Hp base D g.1 g.2.1 s w0 t0 H locs ws tys ts) (hL : z_Lr sa (q_ad ws) ts vs L (q_ml i) ls) (hrv : z_Sr sa (q_ad ws) ts vs rr rv) (hx : ∀ X ∈ cx, z_Hy l base D sa g d i p e s m args below meth c Q w0 t0 vs0 X vs) (hf : ∀ o ∈ os, z_Fi l base D sa g d i p e s m args below meth c Q w0 t0 vs0 o)
    (hrun : va_Run p l e (q_rm d.1 (9 * d.2) (446 * d.2)) s m args below meth c H locs (9 * V.2.2.2.2.2) (446 * V.2.2.2.2.2) (9 * dd.2) (446 * dd.2) (F0 m pc ls sv) rv (z_Qc base D g.1 kc ws ts post a) (q_A base)) :
    W p l e (q_rm d.1 (9 * d.2) (446 * d.2)) s m args below meth c H locs (9 * V.2.2.2.2.2) (446 * V.2.2.2.2.2) Q (F0 m pc ls sv) := by
  refine z_after hrun hp.2.2.2.2.1 (fun v ws1 tys1 ts1 H1 locs1 h1 h2 h3 h4 h5 h6 h7 => ?_)
  obtain ⟨U, rt, o1, vs', k1, k2, k3, k4, k5, k6⟩ := haf v ws1 ts1 h4 h5 h6
  have z1 : 9 * V.2.2.2.2.2 + 9 * dd.2 = 9 * (V.2.2.2.2.2 + dd.2) := by omega
  have z2 : 446 * V.2.2.2.2.2 + 446 * dd.2 = 446 * (V.2.2.2.2.2 + dd.2) := by omega
  rw [z1, z2]
  exact z_go (hN U L (rt ++ rr) cx o1 hgx k1) hgx C ⟨h1, h2, h3, h4, h7, hp.2.2.2.2.2.trans (h5.wide hkc)⟩ k4 k3 (hL.mono k3 h5.2.1 h5.1) (k6.app (z_Sr.mono k3 h5.2.1 h5.1 hrv)) hx (fun o ho => hf o (k2 o ho)) k5
theorem z_s_virt {n : Nat} (hok : ∀ i, i < q_nM → q_mok i) (hC : z_HC l base D sa g J ih) (hmem : ∀ M ∈ g.2.2.2.2, z_Con l base D sa g.1 J M) (hd : decode (q_b i) pc = .ok (.invokevirtual n, ln)) (hk : q_lnk i pc ln (.invokevirtual n) x y z) (hgx : z_gx cx) (hN : z_HN l base D sa g J ih d i (pc + ln) tl sp) (hr : z_inv g q_code ih d i (q_code i) tl V L x y z st sp cx true = some os) : z_Ok l base D sa g J d i pc V L st cx os := by
  obtain ⟨hz9, pre, rr, e2, e3, hcat, hlen, hvirt, hcal⟩ := z_inv_inv hr
  rcases hk with hk | ⟨e1, hx, hym, hy, hdesc, hin, hsel, ⟨rc, hrc, hrc1⟩, hlk⟩
  · exact absurd hk hz9
  subst e1
  intro p e s m args below meth c Q w0 t0 vs0 H locs ls sv ws tys ts vs C hp hv hL hs hX hf
  rw [e2] at hs
  obtain ⟨pv, rv, rfl, hpv, hrv⟩ := hs.split
  have hav : z_Sr sa (q_ad ws) ts vs pre.reverse pv.reverse := hpv.rev
  obtain ⟨dd, kc, post, hd1, hd2, hkc, hM, haf⟩ := z_cal_s hok hC hmem hx hcal hlen hp hv hav C.2.2
  obtain ⟨a0, as1, eas, ha0, hk0, hk1⟩ := hvirt rfl
  have hal : pre.reverse.length = y := by rw [List.length_reverse, e3]
  rw [eas] at hav hal
  obtain ⟨va, As, eav, hva, hAs⟩ := hav.cons
  obtain ⟨b, j, rfl, v1, v2, v3⟩ := hva.nonnull hv.2.1 ha0
  obtain ⟨e9, he, hc⟩ := hp.1.cell v2 v3
  obtain ⟨fs, rfl, -⟩ := hc.obj hk0
  rw [hk1] at he
  rw [eav] at hM
  obtain ⟨k1, k2, k3, k4, k5, k6, -⟩ := hok x hx
  have hcs := z_cats_s hrv
  have hAl : As.length = y - 1 := by rw [hAs.len]; rw [List.length_cons] at hal; omega
  have hpvr : pv = As.reverse ++ [.ref b] := by
    have := congrArg List.reverse eav
    rw [List.reverse_reverse, List.reverse_cons] at this
    exact this
  obtain ⟨hll, lv, hl, -⟩ := id hL
  refine z_fin (dd := dd) hgx hN hkc haf C hp hL hrv hX hf (va_runV (Ts := q_w0) (own := (q_y i).cls) (C := (q_y x).cls) (nL := q_ml i) (As := As) (b := b) ⟨C.1.1, C.1.2.1, C.1.2.2.2.1, C.1.2.2.2.2.1, C.1.2.2.2.2.2.1⟩ hM ⟨callB_of (y - 1) C.1.2.2.2.2.2.1 (q_goodIn k1) rfl rfl rfl (C.1.2.2.2.2.2.1 _ k3) (C.1.2.2.2.2.2.1 _ hlk) ⟨k4, k5, hdesc⟩ ⟨hd1, by show 8 + (q_ml x + 11) + 40 * dd.1 ≤ 40 * d.1; omega⟩, C.1.2.2.2.2.2.1 _ hin, C.1.2.2.2.2.2.1 _ hsel⟩ ⟨z_blind, by rw [← hrc1]; exact va_recv hp.2.2.1 hp.2.1 hrc he, fun U hU hW => ⟨rfl, by rw [hU]; exact Nat.le_trans C.1.2.2.2.2.2.2.2.2.2 hp.2.2.2.2.1.1, q_X.warm hW C.1.2.2.2.2.2.2.1, C.2.1.go hW hU hp.2.2.2.2.1, tys, hp.1, by rw [hU]; exact hp.2.1, va_K.moved hW.alike hp.2.2.1, hp.2.2.2.1⟩⟩ rfl hAl hl.1 (by show pv ++ rv = _; rw [hpvr, List.append_assoc]; rfl) (lv_room (by omega)) hd ⟨?_, ?_⟩)
  · show 9 * V.2.2.2.2.2 + 9 * dd.2 ≤ 9 * d.2
    omega
  · show 446 * V.2.2.2.2.2 + 446 * dd.2 ≤ 446 * d.2
    omega
theorem z_s_stat {n : Nat} (hok : ∀ i, i < q_nM → q_mok i) (hC : z_HC l base D sa g J ih) (hmem : ∀ M ∈ g.2.2.2.2, z_Con l base D sa g.1 J M) (hz : ¬ z = 77) (hd : decode (q_b i) pc = .ok (.invokestatic n, ln)) (hk : q_lnk i pc ln (.invokestatic n) x y z) (hgx : z_gx cx) (hN : z_HN l base D sa g J ih d i (pc + ln) tl sp) (hr : z_inv g q_code ih d i (q_code i) tl V L x y z st sp cx false = some os) : z_Ok l base D sa g J d i pc V L st cx os := by
  obtain ⟨hz9, pre, rr, e2, e3, hcat, hlen, -, hcal⟩ := z_inv_inv hr
  rcases hk with hk | ⟨e1, hk | ⟨-, hx, hym, hdesc, hst, hlk⟩⟩
  · exact absurd hk hz9
  · exact absurd hk.1 hz
  subst e1
  intro p e s m args below meth c Q w0 t0 vs0 H locs ls sv ws tys ts vs C hp hv hL hs hX hf
  rw [e2] at hs
  obtain ⟨pv, rv, rfl, hpv, hrv⟩ := hs.split
  have hav : z_Sr sa (q_ad ws) ts vs pre.reverse pv.reverse := hpv.rev
  obtain ⟨dd, kc, post, hd1, hd2, hkc, hM, haf⟩ := z_cal_s hok hC hmem hx hcal hlen hp hv hav C.2.2
  have hal : pre.reverse.length = y := by rw [List.length_reverse, e3]
  obtain ⟨k1, k2, k3, k4, k5, k6, -⟩ := hok x hx
  have hcs := z_cats_s hrv
  have hAl : pv.reverse.length = y := by rw [hav.len, hal]
  obtain ⟨hll, lv, hl, -⟩ := id hL
  have hPre : PreS s H (z_Pc base D sa g.1 pv.reverse ws ts) pv.reverse := ⟨z_blind, fun U hU hW => ⟨rfl, by rw [hU]; exact Nat.le_trans C.1.2.2.2.2.2.2.2.2.2 hp.2.2.2.2.1.1, q_X.warm hW C.1.2.2.2.2.2.2.1, C.2.1.go hW hU hp.2.2.2.2.1, tys, hp.1, by rw [hU]; exact hp.2.1, va_K.moved hW.alike hp.2.2.1, hp.2.2.2.1⟩⟩
  have hrm : (q_rm dd.1 (9 * dd.2) (446 * dd.2)).frames + 1 ≤ (q_rm d.1 (9 * d.2) (446 * d.2)).frames ∧ 8 + (q_ml x + 11) + (q_rm dd.1 (9 * dd.2) (446 * dd.2)).locals ≤ (q_rm d.1 (9 * d.2) (446 * d.2)).locals := ⟨hd1, by show 8 + (q_ml x + 11) + 40 * dd.1 ≤ 40 * d.1; omega⟩
  have hfc : 9 * V.2.2.2.2.2 + 9 * dd.2 ≤ (q_rm d.1 (9 * d.2) (446 * d.2)).cells ∧ 446 * V.2.2.2.2.2 + 446 * dd.2 ≤ (q_rm d.1 (9 * d.2) (446 * d.2)).slots := ⟨by show 9 * V.2.2.2.2.2 + 9 * dd.2 ≤ 9 * d.2; omega, by show 446 * V.2.2.2.2.2 + 446 * dd.2 ≤ 446 * d.2; omega⟩
  rcases hlk with hlk | ⟨host, hlk⟩
  · exact z_fin (dd := dd) hgx hN hkc haf C hp hL hrv hX hf (va_runS (Ts := q_w0) (own := (q_y i).cls) (nL := q_ml i) (As := pv.reverse) ⟨C.1.1, C.1.2.1, C.1.2.2.2.1, C.1.2.2.2.2.1, C.1.2.2.2.2.2.1⟩ hM ⟨callB_of y C.1.2.2.2.2.2.1 (q_goodIn k1) rfl rfl rfl (C.1.2.2.2.2.2.1 _ k3) (C.1.2.2.2.2.2.1 _ hlk) ⟨k4, k5, hdesc⟩ hrm, C.1.2.2.2.2.2.1 _ hst⟩ hPre rfl hAl hl.1 (by show pv ++ rv = _; rw [List.reverse_reverse]) (lv_room (by omega)) hd hfc)
  · exact z_fin (dd := dd) hgx hN hkc haf C hp hL hrv hX hf (va_runSN (Ts := q_w0) (own := (q_y i).cls) (nL := q_ml i) (As := pv.reverse) ⟨C.1.1, C.1.2.1, C.1.2.2.2.1, C.1.2.2.2.2.1, C.1.2.2.2.2.2.1⟩ hM ⟨va_cnB y C.1.2.2.2.2.2.1 (q_goodIn k1) rfl rfl rfl (C.1.2.2.2.2.2.2.1.1 _ hlk) (C.1.2.2.2.2.2.1 _ k3) ⟨k4, k5, hdesc⟩ hrm, C.1.2.2.2.2.2.1 _ hst, trivial⟩ hPre rfl hAl hl.1 (by show pv ++ rv = _; rw [List.reverse_reverse]) (lv_room (by omega)) hd hfc)
end ZI
