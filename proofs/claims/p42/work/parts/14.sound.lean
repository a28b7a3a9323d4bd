/-! ===== calls, and the whole evaluator ===== -/
theorem q_S.app {env : Nat → Int32} {ad : List Nat} : ∀ {a : List Nat} {u : List Value} {b : List Nat} {v : List Value}, q_S env ad a u → q_S env ad b v → q_S env ad (a ++ b) (u ++ v)
  | [], [], _, _, _, h => h
  | _ :: _, _ :: _, _, _, h1, h => ⟨h1.1, q_S.app h1.2 h⟩
  | [], _ :: _, _, _, h1, _ => h1.elim
  | _ :: _, [], _, _, h1, _ => h1.elim
theorem q_S.rev {env : Nat → Int32} {ad : List Nat} : ∀ {a : List Nat} {u : List Value}, q_S env ad a u → q_S env ad a.reverse u.reverse
  | [], [], _ => trivial
  | c :: a, v :: u, h => by
    rw [List.reverse_cons, List.reverse_cons]
    exact q_S.app (q_S.rev h.2) ⟨h.1, trivial⟩
  | [], _ :: _, h1 => h1.elim
  | _ :: _, [], h1 => h1.elim
theorem q_S.split {env : Nat → Int32} {ad : List Nat} : ∀ {a b : List Nat} {sv : List Value}, q_S env ad (a ++ b) sv → ∃ u v, sv = u ++ v ∧ q_S env ad a u ∧ q_S env ad b v
  | [], b, sv, h => ⟨[], sv, rfl, trivial, h⟩
  | c :: a, b, sv, h => by
    obtain ⟨v, sv', rfl, h1, h2⟩ := q_S.cons (st := a ++ b) h
    obtain ⟨u, w, rfl, h3, h4⟩ := q_S.split h2
    exact ⟨v :: u, w, rfl, ⟨h1, h3⟩, h4⟩
theorem q_S.len {env : Nat → Int32} {ad : List Nat} {a : List Nat} {u : List Value} (h : q_S env ad a u) : u.length = a.length := h.cats.1
theorem q_S.get {env : Nat → Int32} {ad : List Nat} : ∀ {a : List Nat} {u : List Value}, q_S env ad a u → ∀ (k c : Nat), a[k]? = some c → ∃ v, u[k]? = some v ∧ q_v env ad c v
  | [], [], _, k, c, hk => by simp at hk
  | x :: a, v :: u, h, 0, c, hk => by
    have e : x = c := by simpa using hk
    subst e
    exact ⟨v, rfl, h.1⟩
  | x :: a, v :: u, h, k + 1, c, hk => q_S.get h.2 k c (by simpa using hk)
  | [], _ :: _, h1, _, _, _ => h1.elim
  | _ :: _, [], h1, _, _, _ => h1.elim
theorem q_S.cat1 {env : Nat → Int32} {ad : List Nat} : ∀ {a : List Nat} {u : List Value}, q_S env ad a u → (∀ c ∈ a, ¬ c = 4294967314) → ∀ v ∈ u, v.category = 1
  | [], [], _, _, v, hv => by cases hv
  | x :: a, w :: u, h, hn, v, hv => by
    rcases List.mem_cons.mp hv with rfl | hv
    · exact h.1.cat (hn x List.mem_cons_self)
    · exact q_S.cat1 h.2 (fun c hc => hn c (List.mem_cons_of_mem _ hc)) v hv
  | [], _ :: _, h1, _, _, _ => h1.elim
  | _ :: _, [], h1, _, _, _ => h1.elim
theorem q_S.lts {env : Nat → Int32} {ad : List Nat} : ∀ {a : List Nat} {u : List Value}, q_S env ad a u → ∀ c ∈ a, c + 1 < 2 ^ 34
  | [], [], _, v, hv => by cases hv
  | x :: a, w :: u, h, v, hv => by
    rcases List.mem_cons.mp hv with rfl | hv
    · exact h.1.lt
    · exact q_S.lts h.2 v hv
  | [], _ :: _, h1, _, _ => h1.elim
  | _ :: _, [], h1, _, _ => h1.elim
theorem q_pp_inv : ∀ (n : Nat) (st acc as rr : List Nat), q_pp n st acc = some (as, rr) → ∃ pre, st = pre ++ rr ∧ pre.length = n ∧ as = pre.reverse ++ acc ∧ ∀ c ∈ pre, ¬ c = 4294967314
  | 0, st, acc, as, rr, h => by
    have h : some (acc, st) = some (as, rr) := h
    obtain ⟨rfl, rfl⟩ := Prod.mk.inj (Option.some.inj h)
    exact ⟨[], rfl, rfl, rfl, fun _ h => by cases h⟩
  | n + 1, [], acc, as, rr, h => by cases h
  | n + 1, a :: st, acc, as, rr, h => by
    have h : (bif Nat.beq a 4294967314 then none else q_pp n st (a :: acc)) = some (as, rr) := h
    obtain ⟨h1, h2⟩ := q_bifn h
    obtain ⟨pre, e1, e2, e3, e4⟩ := q_pp_inv n st (a :: acc) as rr h2
    refine ⟨a :: pre, by rw [e1]; rfl, by rw [List.length_cons, e2], by rw [e3]; simp, fun c hc => ?_⟩
    rcases List.mem_cons.mp hc with rfl | hc
    · exact q_bneq.mp h1
    · exact e4 c hc
theorem q_goodIn {x : Nat} (h : Cond.code (q_y x) (q_b x) (q_ml x) (q_rt x) ∈ q_w0) : GoodIn q_w0 (q_wy x) := by
  intro w hw
  have hm : w ∈ q_w0 := by
    rcases List.mem_cons.mp hw with rfl | hw
    · exact h
    · exact hw
  exact ⟨hm, good_of_word (List.mem_filter.mp hm).2⟩
theorem q_blind {base : Nat} {D : va_G} {env : Nat → Int32} {ad0 : List Nat} {av : List Value} {h : q_H} : FrameBlind (q_Pc base D env ad0 av h) := by
  intro a U g mk q
  obtain ⟨q0, q1, q2, ws, tys, q3, q4, q5, q6, q7⟩ := q
  exact ⟨q0, q1, ⟨fun w hw => va_Nw.same rfl rfl (q2.1 w hw), va_AO.moved (Vm.Alike.refl U.vm) q2.2⟩, ws, tys, q3, q4, q5, va_K.moved (u := U) (U := U.calling g mk a) (Vm.Alike.refl U.vm) q6, q7⟩
section QC
variable {p : Program} {l : Launch} {e : Env} {R : Room} {s : State} {m : MethodId} {args : Array Value} {below : List Frame} {meth : Method} {c : Code} {H : Heap} {locs : List Loc} {cells slots : Nat} {Q : State → Prop} {base : Nat} {D : va_G} {env : Nat → Int32}
theorem q_after {pc mc ms : Nat} {ls : Array Slot} {st0 rest : List Value} {ad0 : List Nat} {hf : q_H} {r : List Nat} {a : Array Value} (hr : va_Run p l e R s m args below meth c H locs cells slots mc ms (F0 m pc ls st0) rest (q_Qc base D env ad0 hf r a) (q_A base)) (hS : va_S (q_A base) s.heap H locs)
    (kk : ∀ (v : Option Value) (ws : va_W) (tys : List (ClassId × FieldType)) (H1 : Heap) (locs1 : List Loc), q_rv env (q_ad ws) r v → ad0 <+: q_ad ws → q_W env hf ws tys → va_P D q_cls ws H1 → va_K D q_cls tys s → va_D (q_A base) ws → va_S (q_A base) s.heap H1 locs1 → W p l e R s m args below meth c H1 locs1 (cells + mc) (slots + ms) Q (F0 m (pc + 3) ls (v.toList ++ rest))) : W p l e R s m args below meth c H locs cells slots Q (F0 m pc ls st0) := by
  intro T hT X
  obtain ⟨v, st₀, t, T', L, h0, X', hL, e1, e2, ⟨⟨v2, ws, tys, ho, hrv, hpre, hw, hP, hK, hD⟩, hz, hk⟩, st⟩ := hr T hT X
  cases ho
  rw [h0] at hz hk
  have hal : t.vm.Alike s.vm := by rw [← e2]; exact X'.warmed.alike.symm
  obtain ⟨t2, a1, b1⟩ := kk v ws tys T'.heap (locs ++ L) hrv hpre hw (by rw [e1]; exact hP) (va_K.moved hal hK) hD
    ⟨Nat.le_trans hS.1 (by rw [e1]; exact hz), fun q h1 h2 => by rw [e1, hk q (Nat.lt_of_lt_of_le h1 hS.1) h2]; exact hS.2.1 q h1 h2, fun q hq => by
      rcases List.mem_append.mp hq with h | h
      · exact hS.2.2 q h
      · exact hL q h⟩ T' rfl X'
  exact ⟨t2, st t2 a1, b1⟩
end QC
def q_HC (l : Launch) (base : Nat) (D : va_G) (env : Nat → Int32) (mem : q_M) (ih : q_F) : Prop := ∀ (d x : Nat) (as : List Nat) (h h' : q_H) (rt : List Nat), x < q_nM → as.length ≤ q_ml x → (∀ c ∈ as, ¬ c = 4294967314) → q_cal q_code mem ih d x as h = some (h', rt) → ∃ d', d' + 1 ≤ d ∧ q_Met l base D env d' x as h h' rt
section QI
variable {l : Launch} {base : Nat} {D : va_G} {env : Nat → Int32} {rg : Nat → Nat × Nat} {mem : q_M} {ih : q_F} {d i pc ln x y z loc : Nat} {tl : List q_I} {st : List Nat} {h hf : q_H} {r : List Nat}
/-- behind the call: the caller goes on -/
theorem q_fin {rr : List Nat} {h' : q_H} {rt : List Nat} (hmet : h.1 ≤ h'.1 ∧ q_ss h ≤ q_ss h') (hG : q_G l base D env d i (pc + 3) loc (rt ++ rr) h' hf r) {p : Program} {e : Env} {s : State} {m : MethodId} {args : Array Value} {below : List Frame} {meth : Method} {c : Code} {H : Heap} {locs : List Loc} {ls : Array Slot} {sv rv : List Value} {ws : va_W} {ad0 : List Nat} {n0 s0 : Nat} {a : Array Value}
    (C : q_Cx base i p s m args meth c) (hS : va_S (q_A base) s.heap H locs) (hp : ad0 <+: q_ad ws) (hL : q_L env (q_ad ws) loc (q_ml i) ls) (hrv : q_S env (q_ad ws) rr rv) (hn0 : n0 ≤ h.1) (hs0 : s0 ≤ q_ss h)
    (hrun : va_Run p l e (q_rm d (hf.1 - n0) (q_ss hf - s0)) s m args below meth c H locs (h.1 - n0) (q_ss h - s0) (h'.1 - h.1) (q_ss h' - q_ss h) (F0 m pc ls sv) rv (q_Qc base D env (q_ad ws) h' rt a) (q_A base)) :
    W p l e (q_rm d (hf.1 - n0) (q_ss hf - s0)) s m args below meth c H locs (h.1 - n0) (q_ss h - s0) (MQ below (q_Qc base D env ad0 hf r) args s (hf.1 - n0) (q_ss hf - s0) (q_A base)) (F0 m pc ls sv) := by
  refine q_after hrun hS (fun v ws1 tys1 H1 locs1 h1 h2 h3 h4 h5 h6 h7 => ?_)
  have z1 : h.1 - n0 + (h'.1 - h.1) = h'.1 - n0 := by have := hmet.1; omega
  have z2 : q_ss h - s0 + (q_ss h' - q_ss h) = q_ss h' - s0 := by have := hmet.2; omega
  rw [z1, z2]
  refine hG.2 p e s m args below meth c H1 locs1 ls (v.toList ++ rv) ws1 tys1 ad0 n0 s0 C h3 h4 h5 h6 h7 (hp.trans h2) (hL.mono h2) ?_ (Nat.le_trans hn0 hmet.1) (Nat.le_trans hs0 hmet.2)
  rcases h1 with ⟨rfl, rfl⟩ | ⟨cc, xv, rfl, rfl, hv⟩
  · exact q_S.mono h2 hrv
  · exact ⟨hv, q_S.mono h2 hrv⟩
theorem q_inv_inv {cdt : Nat → List q_I} {cd : List q_I} {virt : Bool} {R : q_R} (hr : q_inv cdt mem ih d i cd tl loc x y z st h virt = some R) : ¬ z = 99 ∧ ∃ as rr h' rt, q_pp y st [] = some (as, rr) ∧ rr.length ≤ 4 ∧ (virt = true → ∃ a t, as = a :: t ∧ 4294967328 ≤ a ∧ a - 4294967328 < h.1 ∧ (q_tg 7 h.2 (a - 4294967328)).1 = 2 * z) ∧ q_cal cdt mem ih d x as h = some (h', rt) ∧ ih d i cd tl loc (rt ++ rr) h' = some R := by
  unfold q_inv at hr
  obtain ⟨hz9, hr⟩ := q_bifn hr
  refine ⟨q_bneq.mp hz9, ?_⟩
  cases hpp : q_pp y st [] with
  | none => rw [hpp] at hr; cases hr
  | some ar =>
    obtain ⟨as, rr⟩ := ar
    rw [hpp] at hr
    obtain ⟨h1, h2⟩ := q_bifs hr
    obtain ⟨h1, h3⟩ := q_ands h1
    have h1 := q_ble.mp h1
    rw [q_len_eq] at h1
    cases hc : q_cal cdt mem ih d x as h with
    | none => rw [hc] at h2; cases h2
    | some hr2 =>
      obtain ⟨h', rt⟩ := hr2
      rw [hc] at h2
      refine ⟨as, rr, h', rt, rfl, h1, fun hv => ?_, hc, h2⟩
      subst hv
      cases as with
      | nil => cases h3
      | cons a t =>
        have h3 : (bif Nat.ble 4294967328 a && Nat.blt (q_rf a) h.1 then Nat.beq (q_tg 7 h.2 (q_rf a)).1 (Nat.mul 2 z) else false) = true := h3
        cases hb : (Nat.ble 4294967328 a && Nat.blt (q_rf a) h.1) with
        | false => rw [q_iff _ _ hb] at h3; cases h3
        | true =>
          rw [q_ift _ _ hb] at h3
          obtain ⟨b1, b2⟩ := q_ands hb
          have b2 := q_blt.mp b2
          have h3 := q_beq.mp h3
          rw [q_rf_eq] at b2 h3
          exact ⟨a, t, rfl, q_ble.mp b1, b2, h3⟩
theorem q_s_virt {n : Nat} (hok : ∀ i, i < q_nM → q_mok i) (hC : q_HC l base D env mem ih) (hd : decode (q_b i) pc = .ok (.invokevirtual n, ln)) (hk : q_lnk i pc ln (.invokevirtual n) x y z) (hN : q_HN l base D env ih i pc ln tl) (hr : q_step rg q_code mem ih d i (q_code i) pc (.invokevirtual n) x y z tl loc st h = some (hf, r)) : q_G l base D env d i pc loc st h hf r := by
  have hr : q_inv q_code mem ih d i (q_code i) tl loc x y z st h true = some (hf, r) := hr
  obtain ⟨hz9, hr⟩ := q_inv_inv hr
  rcases hk with hk | ⟨e1, hx, hym, hy, hdesc, hin, hsel, ⟨rc, hrc, hrc1⟩, hlk⟩
  · exact absurd hk hz9
  subst e1
  obtain ⟨as, rr, h', rt, hpp, hlen, hvirt, hcal, hrest⟩ := hr
  obtain ⟨pre, e2, e3, e4, e5⟩ := q_pp_inv y st [] as rr hpp
  rw [List.append_nil] at e4
  have hno : ∀ c ∈ as, ¬ c = 4294967314 := fun c hc => e5 c (by rw [e4] at hc; exact List.mem_reverse.mp hc)
  have hal : as.length = y := by rw [e4, List.length_reverse, e3]
  obtain ⟨d', hd', hmet⟩ := hC d x as h h' rt hx (by omega) hno hcal
  have hG := hN d loc _ _ hf r hrest
  obtain ⟨a0, as1, eas, ha0, hj, hkd⟩ := hvirt rfl
  refine ⟨⟨Nat.le_trans hmet.1.1 hG.1.1, Nat.le_trans hmet.1.2 hG.1.2⟩, fun p e s m args below meth c H locs ls sv ws tys ad0 n0 s0 C hw hP hK hD hS hp hL hs hn0 hs0 => ?_⟩
  rw [e2] at hs
  obtain ⟨pv, rv, rfl, hpv, hrv⟩ := hs.split
  have hav : q_S env (q_ad ws) as pv.reverse := by rw [e4]; exact hpv.rev
  rw [eas] at hav
  obtain ⟨va, As, eav, hva, hAs⟩ := hav.cons
  generalize hj0 : a0 - 4294967328 = j at hj hkd
  obtain ⟨b, e9, rfl, he, hc⟩ := q_cell hw hva ha0 hj0.symm hj
  obtain ⟨fs, rfl, -⟩ := hc.obj hkd
  have hM := hmet.2 (q_ad ws) (.ref b :: As) (by rw [eas]; exact ⟨hva, hAs⟩)
  obtain ⟨k1, k2, k3, k4, k5, k6, -⟩ := hok x hx
  have hcs := hrv.cats.2
  have hG1 := hG.1
  have hm1 := hmet.1
  have hAl : As.length = y - 1 := by rw [hAs.len]; rw [eas, List.length_cons] at hal; omega
  have hpvr : pv = As.reverse ++ [.ref b] := by
    have := congrArg List.reverse eav
    rw [List.reverse_reverse, List.reverse_cons] at this
    exact this
  obtain ⟨lv, hl, -⟩ := id hL
  refine q_fin hmet.1 hG C hS hp hL hrv hn0 hs0 (va_runV (Ts := q_w0) (own := (q_y i).cls) (C := (q_y x).cls) (nL := q_ml i) (As := As) (b := b) ⟨C.1, C.2.1, C.2.2.2.1, C.2.2.2.2.1, C.2.2.2.2.2.1⟩ hM ⟨callB_of (y - 1) C.2.2.2.2.2.1 (q_goodIn k1) rfl rfl rfl (C.2.2.2.2.2.1 _ k3) (C.2.2.2.2.2.1 _ hlk) ⟨k4, k5, hdesc⟩ ⟨hd', by show 8 + (q_ml x + 11) + 40 * d' ≤ 40 * d; omega⟩, C.2.2.2.2.2.1 _ hin, C.2.2.2.2.2.1 _ hsel⟩ ⟨q_blind, by rw [← hrc1]; exact va_recv hK hP hrc he, fun U hU hW => ⟨rfl, by rw [hU]; exact Nat.le_trans C.2.2.2.2.2.2.2.2.2 hS.1, q_X.warm hW C.2.2.2.2.2.2.1, ws, tys, rfl, hw, by rw [hU]; exact hP, va_K.moved hW.alike hK, hD⟩⟩ rfl hAl hl.1 (by show pv ++ rv = _; rw [hpvr, List.append_assoc]; rfl) (lv_room (by omega)) hd ⟨?_, ?_⟩)
  · show h.1 - n0 + (h'.1 - h.1) ≤ hf.1 - n0
    omega
  · show q_ss h - s0 + (q_ss h' - q_ss h) ≤ q_ss hf - s0
    omega
theorem q_s_stat {n : Nat} (hok : ∀ i, i < q_nM → q_mok i) (hC : q_HC l base D env mem ih) (hz : ¬ z = 77) (hd : decode (q_b i) pc = .ok (.invokestatic n, ln)) (hk : q_lnk i pc ln (.invokestatic n) x y z) (hN : q_HN l base D env ih i pc ln tl) (hr : q_step rg q_code mem ih d i (q_code i) pc (.invokestatic n) x y z tl loc st h = some (hf, r)) : q_G l base D env d i pc loc st h hf r := by
  have hr : (bif Nat.beq z 77 then q_cpy ih d i (q_code i) tl loc st h else q_inv q_code mem ih d i (q_code i) tl loc x y z st h false) = some (hf, r) := hr
  rw [q_iff _ _ (q_bneq.mpr hz)] at hr
  obtain ⟨hz9, hr⟩ := q_inv_inv hr
  rcases hk with hk | ⟨e1, hk | ⟨-, hx, hym, hdesc, hst, hlk⟩⟩
  · exact absurd hk hz9
  · exact absurd hk.1 hz
  subst e1
  obtain ⟨as, rr, h', rt, hpp, hlen, -, hcal, hrest⟩ := hr
  obtain ⟨pre, e2, e3, e4, e5⟩ := q_pp_inv y st [] as rr hpp
  rw [List.append_nil] at e4
  have hno : ∀ c ∈ as, ¬ c = 4294967314 := fun c hc => e5 c (by rw [e4] at hc; exact List.mem_reverse.mp hc)
  have hal : as.length = y := by rw [e4, List.length_reverse, e3]
  obtain ⟨d', hd', hmet⟩ := hC d x as h h' rt hx (by omega) hno hcal
  have hG := hN d loc _ _ hf r hrest
  refine ⟨⟨Nat.le_trans hmet.1.1 hG.1.1, Nat.le_trans hmet.1.2 hG.1.2⟩, fun p e s m args below meth c H locs ls sv ws tys ad0 n0 s0 C hw hP hK hD hS hp hL hs hn0 hs0 => ?_⟩
  rw [e2] at hs
  obtain ⟨pv, rv, rfl, hpv, hrv⟩ := hs.split
  have hav : q_S env (q_ad ws) as pv.reverse := by rw [e4]; exact hpv.rev
  have hM := hmet.2 (q_ad ws) pv.reverse hav
  obtain ⟨k1, k2, k3, k4, k5, k6, -⟩ := hok x hx
  have hcs := hrv.cats.2
  have hG1 := hG.1
  have hm1 := hmet.1
  have hAl : pv.reverse.length = y := by rw [hav.len, hal]
  obtain ⟨lv, hl, -⟩ := id hL
  have hPre : PreS s H (q_Pc base D env (q_ad ws) pv.reverse h) pv.reverse := ⟨q_blind, fun U hU hW => ⟨rfl, by rw [hU]; exact Nat.le_trans C.2.2.2.2.2.2.2.2.2 hS.1, q_X.warm hW C.2.2.2.2.2.2.1, ws, tys, rfl, hw, by rw [hU]; exact hP, va_K.moved hW.alike hK, hD⟩⟩
  have hrm : (q_rm d' (h'.1 - h.1) (q_ss h' - q_ss h)).frames + 1 ≤ (q_rm d (hf.1 - n0) (q_ss hf - s0)).frames ∧ 8 + (q_ml x + 11) + (q_rm d' (h'.1 - h.1) (q_ss h' - q_ss h)).locals ≤ (q_rm d (hf.1 - n0) (q_ss hf - s0)).locals := ⟨hd', by show 8 + (q_ml x + 11) + 40 * d' ≤ 40 * d; omega⟩
  have hfc : h.1 - n0 + (h'.1 - h.1) ≤ (q_rm d (hf.1 - n0) (q_ss hf - s0)).cells ∧ q_ss h - s0 + (q_ss h' - q_ss h) ≤ (q_rm d (hf.1 - n0) (q_ss hf - s0)).slots := ⟨by show h.1 - n0 + (h'.1 - h.1) ≤ hf.1 - n0; omega, by show q_ss h - s0 + (q_ss h' - q_ss h) ≤ q_ss hf - s0; omega⟩
  rcases hlk with hlk | ⟨host, hlk⟩
  · exact q_fin hmet.1 hG C hS hp hL hrv hn0 hs0 (va_runS (Ts := q_w0) (own := (q_y i).cls) (nL := q_ml i) (As := pv.reverse) ⟨C.1, C.2.1, C.2.2.2.1, C.2.2.2.2.1, C.2.2.2.2.2.1⟩ hM ⟨callB_of y C.2.2.2.2.2.1 (q_goodIn k1) rfl rfl rfl (C.2.2.2.2.2.1 _ k3) (C.2.2.2.2.2.1 _ hlk) ⟨k4, k5, hdesc⟩ hrm, C.2.2.2.2.2.1 _ hst⟩ hPre rfl hAl hl.1 (by show pv ++ rv = _; rw [List.reverse_reverse]) (lv_room (by omega)) hd hfc)
  · exact q_fin hmet.1 hG C hS hp hL hrv hn0 hs0 (va_runSN (Ts := q_w0) (own := (q_y i).cls) (nL := q_ml i) (As := pv.reverse) ⟨C.1, C.2.1, C.2.2.2.1, C.2.2.2.2.1, C.2.2.2.2.2.1⟩ hM ⟨va_cnB y C.2.2.2.2.2.1 (q_goodIn k1) rfl rfl rfl (C.2.2.2.2.2.2.1.1 _ hlk) (C.2.2.2.2.2.1 _ k3) ⟨k4, k5, hdesc⟩ hrm, C.2.2.2.2.2.1 _ hst, trivial⟩ hPre rfl hAl hl.1 (by show pv ++ rv = _; rw [List.reverse_reverse]) (lv_room (by omega)) hd hfc)
theorem q_s_spec {n : Nat} (hok : ∀ i, i < q_nM → q_mok i) (hC : q_HC l base D env mem ih) (hz : ¬ z = 78) (hd : decode (q_b i) pc = .ok (.invokespecial n, ln)) (hk : q_lnk i pc ln (.invokespecial n) x y z) (hN : q_HN l base D env ih i pc ln tl) (hr : q_step rg q_code mem ih d i (q_code i) pc (.invokespecial n) x y z tl loc st h = some (hf, r)) : q_G l base D env d i pc loc st h hf r := by
  have hr : (bif Nat.beq z 78 then q_oin ih d i (q_code i) tl loc st h else q_inv q_code mem ih d i (q_code i) tl loc x y z st h true) = some (hf, r) := hr
  rw [q_iff _ _ (q_bneq.mpr hz)] at hr
  obtain ⟨hz9, hr⟩ := q_inv_inv hr
  rcases hk with hk | ⟨e1, hk | ⟨-, hx, hym, hy, hdesc, hini, hrt, hin, hlk⟩⟩
  · exact absurd hk hz9
  · exact absurd hk.1 hz
  subst e1
  obtain ⟨as, rr, h', rt, hpp, hlen, hvirt, hcal, hrest⟩ := hr
  obtain ⟨pre, e2, e3, e4, e5⟩ := q_pp_inv y st [] as rr hpp
  rw [List.append_nil] at e4
  have hno : ∀ c ∈ as, ¬ c = 4294967314 := fun c hc => e5 c (by rw [e4] at hc; exact List.mem_reverse.mp hc)
  have hal : as.length = y := by rw [e4, List.length_reverse, e3]
  obtain ⟨d', hd', hmet⟩ := hC d x as h h' rt hx (by omega) hno hcal
  have hG := hN d loc _ _ hf r hrest
  refine ⟨⟨Nat.le_trans hmet.1.1 hG.1.1, Nat.le_trans hmet.1.2 hG.1.2⟩, fun p e s m args below meth c H locs ls sv ws tys ad0 n0 s0 C hw hP hK hD hS hp hL hs hn0 hs0 => ?_⟩
  rw [e2] at hs
  obtain ⟨pv, rv, rfl, hpv, hrv⟩ := hs.split
  have hav : q_S env (q_ad ws) as pv.reverse := by rw [e4]; exact hpv.rev
  obtain ⟨a0, as1, eas, ha0, -⟩ := hvirt rfl
  rw [eas] at hav
  obtain ⟨va, As, eav, hva, hAs⟩ := hav.cons
  have hM := hmet.2 (q_ad ws) (va :: As) (by rw [eas]; exact ⟨hva, hAs⟩)
  obtain ⟨k1, k2, k3, k4, k5, k6, -⟩ := hok x hx
  have hcs := hrv.cats.2
  have hG1 := hG.1
  have hm1 := hmet.1
  have hAl : As.length = y - 1 := by rw [hAs.len]; rw [eas, List.length_cons] at hal; omega
  have hpvr : pv = As.reverse ++ [va] := by
    have := congrArg List.reverse eav
    rw [List.reverse_reverse, List.reverse_cons] at this
    exact this
  obtain ⟨lv, hl, -⟩ := id hL
  have hPre : PreS s H (q_Pc base D env (q_ad ws) (va :: As) h) (va :: As) := ⟨q_blind, fun U hU hW => ⟨rfl, by rw [hU]; exact Nat.le_trans C.2.2.2.2.2.2.2.2.2 hS.1, q_X.warm hW C.2.2.2.2.2.2.1, ws, tys, rfl, hw, by rw [hU]; exact hP, va_K.moved hW.alike hK, hD⟩⟩
  have hrm : (q_rm d' (h'.1 - h.1) (q_ss h' - q_ss h)).frames + 1 ≤ (q_rm d (hf.1 - n0) (q_ss hf - s0)).frames ∧ 8 + (q_ml x + 11) + (q_rm d' (h'.1 - h.1) (q_ss h' - q_ss h)).locals ≤ (q_rm d (hf.1 - n0) (q_ss hf - s0)).locals := ⟨hd', by show 8 + (q_ml x + 11) + 40 * d' ≤ 40 * d; omega⟩
  have hfc : h.1 - n0 + (h'.1 - h.1) ≤ (q_rm d (hf.1 - n0) (q_ss hf - s0)).cells ∧ q_ss h - s0 + (q_ss h' - q_ss h) ≤ (q_rm d (hf.1 - n0) (q_ss hf - s0)).slots := ⟨by show h.1 - n0 + (h'.1 - h.1) ≤ hf.1 - n0; omega, by show q_ss h - s0 + (q_ss h' - q_ss h) ≤ q_ss hf - s0; omega⟩
  obtain ⟨b, -, rfl⟩ := hva.ref ha0
  have hwy : q_wy x = Cond.code (q_y x) (q_b x) (q_ml x) none :: q_w0 := by rw [← hrt]; rfl
  rcases hlk with hlk | ⟨host, hlk⟩
  · exact q_fin hmet.1 hG C hS hp hL hrv hn0 hs0 (va_runI (Ts := q_w0) (own := (q_y i).cls) (nL := q_ml i) (As := As) (b := b) ⟨C.1, C.2.1, C.2.2.2.1, C.2.2.2.2.1, C.2.2.2.2.2.1⟩ hM ⟨callB_of (y - 1) C.2.2.2.2.2.1 (q_goodIn k1) hwy rfl rfl (C.2.2.2.2.2.1 _ k3) (C.2.2.2.2.2.1 _ hlk) ⟨k4, k5, hdesc⟩ hrm, hini, C.2.2.2.2.2.1 _ hin⟩ hPre rfl hAl hl.1 (by show pv ++ rv = _; rw [hpvr, List.append_assoc]; rfl) (lv_room (by omega)) hd hfc)
  · exact q_fin hmet.1 hG C hS hp hL hrv hn0 hs0 (va_runIN (Ts := q_w0) (own := (q_y i).cls) (nL := q_ml i) (As := As) (b := b) ⟨C.1, C.2.1, C.2.2.2.1, C.2.2.2.2.1, C.2.2.2.2.2.1⟩ hM ⟨va_cnB (y - 1) C.2.2.2.2.2.1 (q_goodIn k1) hwy rfl rfl (C.2.2.2.2.2.2.1.1 _ hlk) (C.2.2.2.2.2.1 _ k3) ⟨k4, k5, hdesc⟩ hrm, hini, C.2.2.2.2.2.1 _ hin⟩ hPre rfl hAl hl.1 (by show pv ++ rv = _; rw [hpvr, List.append_assoc]; rfl) (lv_room (by omega)) hd hfc)
end QI
