/-! ===== contracts of methods, and a run of the evaluator as one ===== -/
def z_Pc (base : Nat) (D : va_G) (sa : Nat → Nat) (tt : Nat → z_T) (av : List Value) (w0 : va_W) (t0 : List Nat) : Array Value → State → Prop := va_Pc av (fun U => base ≤ U.heap.size ∧ q_X U ∧ z_Tx base sa U ∧ ∃ tys : List (ClassId × FieldType), z_W tt w0 tys t0 ∧ va_P D q_cls w0 U.heap ∧ va_K D q_cls tys U ∧ va_D (q_A base) w0)
def z_Qc (base : Nat) (D : va_G) (tt : Nat → z_T) (kw : List z_C) (w0 : va_W) (t0 : List Nat) (post : Option Value → va_W → List Nat → Prop) : Array Value → State → Outcome → State → Prop := fun _ st oc t => (∃ (v : Option Value) (ws : va_W) (tys : List (ClassId × FieldType)) (ts : List Nat), oc = .returned v ∧ z_W tt ws tys ts ∧ va_P D q_cls ws t.heap ∧ va_K D q_cls tys t ∧ va_D (q_A base) ws ∧ z_Fr kw w0 t0 ws ts ∧ post v ws ts) ∧ va_F (q_A base) st t
def z_Met (l : Launch) (base : Nat) (D : va_G) (sa : Nat → Nat) (tt : Nat → z_T) (kw : List z_C) (d : Nat × Nat) (x : Nat) (av : List Value) (w0 : va_W) (t0 : List Nat) (post : Option Value → va_W → List Nat → Prop) : Prop := Met l (q_y x) (q_wy x) (q_rm d.1 (9 * d.2) (446 * d.2)) (z_Pc base D sa tt av w0 t0) (z_Qc base D tt kw w0 t0 post) (9 * d.2) (446 * d.2) (q_A base)
theorem z_blind {base : Nat} {D : va_G} {sa : Nat → Nat} {tt : Nat → z_T} {av : List Value} {w0 : va_W} {t0 : List Nat} : FrameBlind (z_Pc base D sa tt av w0 t0) := by
  intro a U g mk q
  obtain ⟨q0, q1, q2, ⟨⟨adV, x1⟩, x2, x3, x4, x5⟩, tys, q3, q4, q5, q6⟩ := q
  exact ⟨q0, q1, ⟨fun w hw => va_Nw.same rfl rfl (q2.1 w hw), va_AO.moved (Vm.Alike.refl U.vm) q2.2⟩, ⟨⟨adV, vk_S.moved (u := U) (U := U.calling g mk a) (Vm.Alike.refl U.vm) x1⟩, vk_R.same rfl x2, vk_R.same rfl x3, va_Z.moved (u := U) (U := U.calling g mk a) (Vm.Alike.refl U.vm) x4, va_Zq.moved (u := U) (U := U.calling g mk a) (Vm.Alike.refl U.vm) x5⟩, tys, q3, q4, va_K.moved (u := U) (U := U.calling g mk a) (Vm.Alike.refl U.vm) q5, q6⟩
section ZC
variable {p : Program} {l : Launch} {e : Env} {R : Room} {s : State} {m : MethodId} {args : Array Value} {below : List Frame} {meth : Method} {c : Code} {H : Heap} {locs : List Loc} {cells slots : Nat} {Q : State → Prop} {base : Nat} {D : va_G} {sa : Nat → Nat} {tt : Nat → z_T} {kw : List z_C} {w0 : va_W} {t0 : List Nat} {post : Option Value → va_W → List Nat → Prop}
theorem z_after {pc mc ms : Nat} {ls : Array Slot} {st0 rest : List Value} {a : Array Value} (hr : va_Run p l e R s m args below meth c H locs cells slots mc ms (F0 m pc ls st0) rest (z_Qc base D tt kw w0 t0 post a) (q_A base)) (hS : va_S (q_A base) s.heap H locs)
    (kk : ∀ (v : Option Value) (ws : va_W) (tys : List (ClassId × FieldType)) (ts : List Nat) (H1 : Heap) (locs1 : List Loc), z_W tt ws tys ts → va_P D q_cls ws H1 → va_K D q_cls tys s → va_D (q_A base) ws → z_Fr kw w0 t0 ws ts → post v ws ts → va_S (q_A base) s.heap H1 locs1 → W p l e R s m args below meth c H1 locs1 (cells + mc) (slots + ms) Q (F0 m (pc + 3) ls (v.toList ++ rest))) : W p l e R s m args below meth c H locs cells slots Q (F0 m pc ls st0) := by
  intro T hT X
  obtain ⟨v, st₀, t, T', L, h0, X', hL, e1, e2, ⟨⟨v2, ws, tys, ts, ho, hw, hP, hK, hD, hfr, hpost⟩, hz, hk⟩, st⟩ := hr T hT X
  cases ho
  rw [h0] at hz hk
  have hal : t.vm.Alike s.vm := by rw [← e2]; exact X'.warmed.alike.symm
  obtain ⟨t2, a1, b1⟩ := kk v ws tys ts T'.heap (locs ++ L) hw (by rw [e1]; exact hP) (va_K.moved hal hK) hD hfr hpost
    ⟨Nat.le_trans hS.1 (by rw [e1]; exact hz), fun q h1 h2 => by rw [e1, hk q (Nat.lt_of_lt_of_le h1 hS.1) h2]; exact hS.2.1 q h1 h2, fun q hq => by
      rcases List.mem_append.mp hq with h | h
      · exact hS.2.2 q h
      · exact hL q h⟩ T' rfl X'
  exact ⟨t2, st t2 a1, b1⟩
end ZC
/-! the args become the locals -/
theorem z_sl_len {sa : Nat → Nat} {ad ts : List Nat} {vs : List Value} : ∀ {as : List z_C} {av : List Value}, z_Sr sa ad ts vs as av → (lg_sl av).length = (z_sl as).length
  | [], [], _ => rfl
  | c :: as, v :: av, h => by
    have ih := z_sl_len h.2
    have e : z_sl (c :: as) = bif Nat.beq c.1 3 then c :: (9, 0, 0) :: z_sl as else c :: z_sl as := rfl
    unfold lg_sl at ih ⊢
    rw [List.flatMap_cons, List.length_append, ih, e]
    cases hb : Nat.beq c.1 3 with
    | true =>
      obtain ⟨x, rfl, _⟩ := h.1.lng (q_beq.mp hb)
      rw [q_ift _ _ rfl]
      simp [Value.category]
      omega
    | false =>
      have hc := h.1.cat1 (q_bneq.mp hb)
      rw [q_iff _ _ rfl]
      simp [hc]
      omega
  | [], _ :: _, h => h.elim
  | _ :: _, [], h => h.elim
theorem z_entry {sa : Nat → Nat} {ad ts : List Nat} {vs : List Value} : ∀ {as : List z_C} {av : List Value} (o : Nat), z_Sr sa ad ts vs as av → ∀ j c, (z_sl as)[j]? = some c → c.1 = 9 ∨ ∃ v, (o + j, v) ∈ lv_args o av ∧ z_v sa ad ts vs c v
  | [], [], _, _, j, c, hj => by cases hj
  | c0 :: as, v0 :: av, o, h, j, c, hj => by
    have e : z_sl (c0 :: as) = bif Nat.beq c0.1 3 then c0 :: (9, 0, 0) :: z_sl as else c0 :: z_sl as := rfl
    rw [e] at hj
    have el : lv_args o (v0 :: av) = (o, v0) :: lv_args (if v0.category = 2 then o + 2 else o + 1) av := rfl
    rw [el]
    cases hb : Nat.beq c0.1 3 with
    | true =>
      rw [q_ift _ _ hb] at hj
      obtain ⟨x, rfl, _⟩ := id (h.1.lng (q_beq.mp hb))
      rw [if_pos (show (Value.long x).category = 2 from rfl)]
      match j, hj with
      | 0, hj =>
        cases hj
        exact Or.inr ⟨_, List.mem_cons_self, h.1⟩
      | 1, hj =>
        cases hj
        exact Or.inl rfl
      | j + 2, hj =>
        rcases z_entry (o + 2) h.2 j c hj with h1 | ⟨v, h1, h2⟩
        · exact Or.inl h1
        · rw [show o + 2 + j = o + (j + 2) by omega] at h1
          exact Or.inr ⟨v, List.mem_cons_of_mem _ h1, h2⟩
    | false =>
      rw [q_iff _ _ hb] at hj
      have hc := h.1.cat1 (q_bneq.mp hb)
      rw [if_neg (by omega)]
      match j, hj with
      | 0, hj =>
        cases hj
        exact Or.inr ⟨_, List.mem_cons_self, h.1⟩
      | j + 1, hj =>
        rcases z_entry (o + 1) h.2 j c hj with h1 | ⟨v, h1, h2⟩
        · exact Or.inl h1
        · rw [show o + 1 + j = o + (j + 1) by omega] at h1
          exact Or.inr ⟨v, List.mem_cons_of_mem _ h1, h2⟩
  | [], _ :: _, _, h, _, _, _ => h.elim
  | _ :: _, [], _, h, _, _, _ => h.elim
theorem z_jm_mem {cd : List q_I} {t : Nat} {e : q_I} {r : List q_I} (h : q_jm cd t = e :: r) : e ∈ cd ∧ e.1 = t := by
  rcases q_jm_suf cd t with h1 | ⟨pre, e2, tl, h1, h2, h3⟩
  · rw [h1] at h
    cases h
  · rw [h2] at h h1
    cases h
    rw [h1]
    exact ⟨List.mem_append_right _ List.mem_cons_self, h3⟩
/-- behind a run: one of its ends -/
def z_Po (sa : Nat → Nat) (tt : Nat → z_T) (vs : List Value) (os : List z_O) : Option Value → va_W → List Nat → Prop := fun v ws ts => ∃ o ∈ os, ∃ vs', z_Sv sa tt vs ws ts o.2.1 vs' ∧ z_Sr sa (q_ad ws) ts vs' o.2.2.2 v.toList
section ZD
variable {l : Launch} {base : Nat} {D : va_G} {sa : Nat → Nat} {g : z_G} {J : va_W → List Nat → Prop}
/-- an end that is a return -/
theorem z_rok_s {d : Nat × Nat} {x : Nat} {o : z_O} {os : List z_O} (hmok : q_mok x) (ho : o ∈ os) (hr : z_rok q_code x d.2 o = true) {p : Program} {e : Env} {s : State} {m : MethodId} {args : Array Value} {below : List Frame} {meth : Method} {c : Code} {w0 : va_W} {t0 : List Nat} {vs0 : List Value} (C : z_Cx base sa g.2.1 J x p s m args meth c w0 t0) : z_Fi l base D sa g d x p e s m args below meth c (MQ below (z_Qc base D g.1 g.2.1 w0 t0 (z_Po sa g.1 vs0 os)) args s (9 * d.2) (446 * d.2) (q_A base)) w0 t0 vs0 o := by
  intro H locs ls sv ws tys ts vs hp hv hL hs
  unfold z_rok at hr
  cases hj : q_jm (q_code x) o.1 with
  | nil => rw [hj] at hr; cases hr
  | cons e0 rr =>
    rw [hj] at hr
    obtain ⟨hmem, hpc⟩ := z_jm_mem hj
    obtain ⟨hdec, hlk⟩ := hmok.2.2.2.2.2.2.2.2 e0 hmem
    rw [hpc] at hdec hlk
    obtain ⟨hle, hr2⟩ := q_ands hr
    have hle := q_ble.mp hle
    clear hr
    refine W.widen (k := 9 * d.2) (n := 446 * d.2) (by omega) (by omega) ?_
    have hq2 : ∀ (v : Option Value), v.toList = sv → ∀ t : State, t.heap = H → s.WarmedH t.vm → z_Qc base D g.1 g.2.1 w0 t0 (z_Po sa g.1 vs0 os) args s (.returned v) t := fun v hv9 t ht hW => ⟨⟨v, ws, tys, ts, rfl, hp.1, by rw [ht]; exact hp.2.1, va_K.moved hW.alike hp.2.2.1, hp.2.2.2.1, hp.2.2.2.2.2, o, ho, vs, hv, by rw [hv9]; exact hs⟩, hp.2.2.2.2.1.F ht⟩
    obtain ⟨pc0, V0, L0, S0⟩ := o
    obtain ⟨a0, ln0, ins0, x0, y0, z0⟩ := e0
    cases ins0 with
    | return_ =>
      match S0, hr2, hs with
      | _ :: _, hr2, _ => cases hr2
      | [], _, hs =>
        have h9 := hs.nil
        subst h9
        obtain ⟨k1, k2⟩ := hlk
        have k1 : ln0 = 1 := k1
        subst k1
        exact W.vret C.1.1 C.1.2.1 (C.1.2.2.1.trans k2) (hq2 none rfl) hp.2.2.2.2.1.2.2 hdec C.1.2.2.2.2.2.2.2.1
    | ireturn =>
      match S0, hr2, hs with
      | [], hr2, _ => cases hr2
      | _ :: _ :: _, hr2, _ => cases hr2
      | [b], hr2, hs =>
        obtain ⟨vb, sv1, rfl, hvb, hs1⟩ := hs.cons
        have h9 := hs1.nil
        subst h9
        have hr2 : (Nat.beq b.1 0 && (Nat.beq x0 0 || (Nat.beq x0 1 && (z_po V0 b && Nat.ble (z_ih V0 b) 2147483649)))) = true := hr2
        obtain ⟨kb, hr3⟩ := q_ands hr2
        have kb := q_beq.mp kb
        obtain ⟨_, xb, -, rfl, -⟩ := id (hvb.int kb)
        obtain ⟨k1, k2⟩ := hlk
        have k1 : ln0 = 1 := k1
        subst k1
        rcases q_ors hr3 with h | h
        · have h := q_beq.mp h
          rcases k2 with ⟨_, k2⟩ | ⟨k2, _⟩ | k2
          · exact W.iret C.1.1 C.1.2.1 (C.1.2.2.1.trans k2) (hq2 (some (.int xb)) rfl) hp.2.2.2.2.1.2.2 hdec C.1.2.2.2.2.2.2.2.1
          · have k2 : x0 = 1 := k2
            omega
          · have k2 : 2 ≤ x0 := k2
            omega
        · obtain ⟨h, h5⟩ := q_ands h
          have h := q_beq.mp h
          obtain ⟨w, hw, rfl⟩ := z_bool01 hv.2.1 hvb kb (q_ands h5).1 (q_ands h5).2
          rcases k2 with ⟨k2, _⟩ | ⟨_, k2⟩ | k2
          · have k2 : x0 = 0 := k2
            omega
          · exact W.zret C.1.1 C.1.2.1 (C.1.2.2.1.trans k2) (q_fit_z w hw).1 (hq2 (some (.int (nI w))) rfl) hp.2.2.2.2.1.2.2 hdec C.1.2.2.2.2.2.2.2.1
          · have k2 : 2 ≤ x0 := k2
            omega
    | areturn =>
      match S0, hr2, hs with
      | [], hr2, _ => cases hr2
      | _ :: _ :: _, hr2, _ => cases hr2
      | [b], hr2, hs =>
        obtain ⟨vb, sv1, rfl, hvb, hs1⟩ := hs.cons
        have h9 := hs1.nil
        subst h9
        have hr2 : Nat.beq b.1 1 = true := hr2
        obtain ⟨k1, rt, k2, k3⟩ := hlk
        have k1 : ln0 = 1 := k1
        subst k1
        exact W.aret C.1.1 C.1.2.1 (C.1.2.2.1.trans k2) k3 (hvb.obj (Or.inl (q_beq.mp hr2))) (hq2 (some vb) rfl) hp.2.2.2.2.1.2.2 hdec C.1.2.2.2.2.2.2.2.1
    | _ => cases hr2
/-- a run of a method from its first instruction is its contract -/
theorem z_meth {d : Nat × Nat} {x : Nat} {as : List z_C} {V : z_V} {os : List z_O} (hmok : q_mok x) (hok : z_Ok l base D sa g J d x 0 V (z_pad (q_ml x) (z_sl as)) [] [] os) (hro : z_all (z_rok q_code x d.2) os = true) (hm : V.2.2.2.2.2 = 0) (hlen : (z_sl as).length ≤ q_ml x) {ws : va_W} {ts : List Nat} {vs : List Value} {av : List Value} (hE : z_E V vs) (hF : z_Fs sa ws ts vs V.2.2.2.1) (hD9 : z_Ds sa g.1 (q_ad ws) ts vs V.2.2.2.2.1) (has : z_Sr sa (q_ad ws) ts vs as av) (hJ : ∀ ws' ts', z_Fr g.2.1 ws ts ws' ts' → J ws' ts') : z_Met l base D sa g.1 g.2.1 d x av ws ts (z_Po sa g.1 vs os) := by
  refine va_MetF (cc := q_b x) (maxL := q_ml x) (ret := q_rt x) hmok.2.1 rfl ?_
  intro p e s m args below meth c s₁ B hml hv
  obtain ⟨rfl, hbase, hX, hT, tys, hw, hP, hK, hD⟩ := hv
  have hts := atoms_spec (ws := q_wy x) B.pre
  have hown : s.vm.findClass (q_y x).cls = some m.cls := findClass_of_methodNamed B.named
  have hin : meth.name = (q_y x).name := (name_of_methodNamed B.named B.method).1
  have hll := z_sl_len has
  have hl := lv_entry av (n := q_ml x) (by omega)
  rw [lg_entry_eq]
  generalize (lg_sl av ++ List.replicate (q_ml x - (lg_sl av).length) Slot.unset).toArray = ls at hl ⊢
  have hpl : (z_pad (q_ml x) (z_sl as)).length = q_ml x := by
    show (z_sl as ++ List.replicate (Nat.sub (q_ml x) (q_len (z_sl as))) (9, 0, 0)).length = _
    rw [List.length_append, List.length_replicate, q_len_eq, Nat.sub_eq]
    omega
  have hL : z_Lr sa (q_ad ws) ts vs (z_pad (q_ml x) (z_sl as)) (q_ml x) ls := ⟨hpl, _, hl, fun i cc hc => by
    have hc : (z_sl as ++ List.replicate (Nat.sub (q_ml x) (q_len (z_sl as))) (9, 0, 0))[i]? = some cc := hc
    rcases Nat.lt_or_ge i (z_sl as).length with hi | hi
    · rw [List.getElem?_append_left hi] at hc
      have := z_entry 0 has i cc hc
      rw [Nat.zero_add] at this
      exact this
    · rw [List.getElem?_append_right hi] at hc
      have := List.mem_of_getElem? hc
      rw [(List.mem_replicate.mp this).2]
      exact Or.inl rfl⟩
  have C : z_Cx base sa g.2.1 J x p s m av.toArray meth c ws ts := ⟨⟨B.exec, B.bytes, B.returns, hml, hown, fun w hw => hts w (List.mem_cons_of_mem _ hw), hX, B.notSynchronized, hin, hbase⟩, hT, hJ⟩
  have := hok p e s m av.toArray below meth c (MQ below (z_Qc base D g.1 g.2.1 ws ts (z_Po sa g.1 vs os)) av.toArray s (9 * d.2) (446 * d.2) (q_A base)) ws ts vs s.heap [] ls [] ws tys ts vs C ⟨hw, hP, hK, hD, va_S.rf, z_Fr.rf _ _ _⟩ ⟨List.prefix_rfl, hE, hF, hD9⟩ hL trivial (fun X hX => by cases hX) (fun o ho => z_rok_s hmok ho (z_all_iff.mp hro o ho) C)
  rw [hm] at this
  exact this
end ZD
