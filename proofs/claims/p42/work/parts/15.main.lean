/-! ===== a run of the evaluator is a contract of the method ===== -/
theorem q_sl1 : ∀ (vs : List Value), (∀ v ∈ vs, v.category = 1) → (lg_sl vs).length = vs.length
  | [], _ => rfl
  | v :: vs, h => by
    have h1 := h v List.mem_cons_self
    have ih := q_sl1 vs (fun w hw => h w (List.mem_cons_of_mem _ hw))
    unfold lg_sl at ih ⊢
    rw [List.flatMap_cons, List.length_append, ih, h1]
    simp
    omega
theorem q_args_at : ∀ (vs : List Value) (o : Nat), (∀ v ∈ vs, v.category = 1) → ∀ (k : Nat) (v : Value), vs[k]? = some v → (o + k, v) ∈ lv_args o vs
  | [], _, _, k, v, hv => by simp at hv
  | w :: vs, o, h, 0, v, hv => by
    have e : w = v := by simpa using hv
    subst e
    exact List.mem_cons_self
  | w :: vs, o, h, k + 1, v, hv => by
    have h1 := h w List.mem_cons_self
    have ih := q_args_at vs (o + 1) (fun x hx => h x (List.mem_cons_of_mem _ hx)) k v (by simpa using hv)
    show (o + (k + 1), v) ∈ (o, w) :: lv_args (if w.category = 2 then o + 2 else o + 1) vs
    rw [if_neg (by omega), show o + (k + 1) = o + 1 + k by omega]
    exact List.mem_cons_of_mem _ ih
theorem q_args_in : ∀ (vs : List Value) (o : Nat) (q : Nat × Value), q ∈ lv_args o vs → q.2 ∈ vs
  | [], _, q, hq => by cases hq
  | w :: vs, o, q, hq => by
    have hq : q ∈ (o, w) :: lv_args (if w.category = 2 then o + 2 else o + 1) vs := hq
    rcases List.mem_cons.mp hq with rfl | hq
    · exact List.mem_cons_self
    · exact List.mem_cons_of_mem _ (q_args_in vs _ q hq)
section QM
variable {l : Launch} {base : Nat} {D : va_G} {env : Nat → Int32} {rg : Nat → Nat × Nat} {mem : q_M}
theorem q_meth {d x : Nat} {as : List Nat} {h hf : q_H} {r : List Nat} (hok : q_mok x) (hlen : as.length ≤ q_ml x) (hno : ∀ c ∈ as, ¬ c = 4294967314) (hg : q_G l base D env d x 0 (q_pk as) [] h hf r) : q_Met l base D env d x as h hf r := by
  refine ⟨hg.1, fun ad0 av hs => ?_⟩
  refine va_MetF (cc := q_b x) (maxL := q_ml x) (ret := q_rt x) hok.2.1 rfl ?_
  intro p e s m args below meth c s₁ B hml hv
  obtain ⟨rfl, hbase, hX, ws, tys, had, hw, hP, hK, hD⟩ := hv
  have hts := atoms_spec (ws := q_wy x) B.pre
  have hown : s.vm.findClass (q_y x).cls = some m.cls := findClass_of_methodNamed B.named
  have hin : meth.name = (q_y x).name := (name_of_methodNamed B.named B.method).1
  have hcat := hs.cat1 hno
  have hl := lv_entry av (n := q_ml x) (by rw [q_sl1 av hcat, hs.len]; exact hlen)
  rw [lg_entry_eq]
  generalize (lg_sl av ++ List.replicate (q_ml x - (lg_sl av).length) Slot.unset).toArray = ls at hl ⊢
  have hL : q_L env (q_ad ws) (q_pk as) (q_ml x) ls := ⟨_, hl, fun q hq => hcat _ (q_args_in av 0 q hq), fun i cc hc => by
    rw [q_pk_get as hs.lts i] at hc
    cases ha : as[i]? with
    | none => rw [ha] at hc; cases hc
    | some a =>
      rw [ha] at hc
      have e : a = cc := by simpa using hc
      subst e
      obtain ⟨v, hv1, hv2⟩ := hs.get i a ha
      refine ⟨v, ?_, by rw [had]; exact hv2⟩
      have := q_args_at av 0 hcat i v hv1
      rw [Nat.zero_add] at this
      exact this⟩
  have := hg.2 p e s m av.toArray below meth c s.heap [] ls [] ws tys ad0 h.1 (q_ss h) ⟨B.exec, B.bytes, B.returns, hml, hown, fun w hw => hts w (List.mem_cons_of_mem _ hw), hX, B.notSynchronized, hin, hbase⟩ hw hP hK hD va_S.rf (by rw [had]; exact List.prefix_rfl) hL trivial (Nat.le_refl _) (Nat.le_refl _)
  rw [Nat.sub_self, Nat.sub_self] at this
  exact this
theorem q_sm_eq : ∀ (n : Nat) (a b : q_T n), q_sm n a b = true → a = b
  | 0, a, b, h => by
    have h : (Nat.beq (Prod.fst (α := Nat) (β := Nat × Nat) a) (Prod.fst (α := Nat) (β := Nat × Nat) b) && (Nat.beq (Prod.snd (α := Nat) (β := Nat × Nat) a).1 (Prod.snd (α := Nat) (β := Nat × Nat) b).1 && Nat.beq (Prod.snd (α := Nat) (β := Nat × Nat) a).2 (Prod.snd (α := Nat) (β := Nat × Nat) b).2)) = true := h
    obtain ⟨h1, h2⟩ := q_ands h
    obtain ⟨h2, h3⟩ := q_ands h2
    exact Prod.ext (q_beq.mp h1) (Prod.ext (q_beq.mp h2) (q_beq.mp h3))
  | n + 1, a, b, h => by
    have h : (q_sm n (Prod.fst (α := q_T n) (β := q_T n) a) (Prod.fst (α := q_T n) (β := q_T n) b) && q_sm n (Prod.snd (α := q_T n) (β := q_T n) a) (Prod.snd (α := q_T n) (β := q_T n) b)) = true := h
    obtain ⟨h1, h2⟩ := q_ands h
    exact Prod.ext (q_sm_eq n _ _ h1) (q_sm_eq n _ _ h2)
theorem q_sl_eq : ∀ (a b : List Nat), q_sl a b = true → a = b
  | [], [], _ => rfl
  | [], _ :: _, h => by cases h
  | _ :: _, [], h => by cases h
  | x :: a, y :: b, h => by
    have h : (Nat.beq x y && q_sl a b) = true := h
    obtain ⟨h1, h2⟩ := q_ands h
    rw [q_beq.mp h1, q_sl_eq a b h2]
theorem q_lk_eq : ∀ (mem : q_M) (i : Nat) (as : List Nat) (h : q_H) (R : q_R), q_lk mem i as h = some R → (i, as, h, R) ∈ mem
  | [], _, _, _, _, h => by cases h
  | e :: mem, i, as, h, R, hr => by
    have hr : (bif Nat.beq e.1 i && (q_sl e.2.1 as && (Nat.beq e.2.2.1.1 h.1 && q_sm 7 e.2.2.1.2 h.2)) then some e.2.2.2 else q_lk mem i as h) = some R := hr
    cases hb : (Nat.beq e.1 i && (q_sl e.2.1 as && (Nat.beq e.2.2.1.1 h.1 && q_sm 7 e.2.2.1.2 h.2))) with
    | false =>
      rw [q_iff _ _ hb] at hr
      exact List.mem_cons_of_mem _ (q_lk_eq mem i as h R hr)
    | true =>
      rw [q_ift _ _ hb] at hr
      obtain ⟨h1, h2⟩ := q_ands hb
      obtain ⟨h2, h3⟩ := q_ands h2
      obtain ⟨h3, h4⟩ := q_ands h3
      have e1 := q_beq.mp h1
      have e2 := q_sl_eq _ _ h2
      have e3 : e.2.2.1 = h := Prod.ext (q_beq.mp h3) (q_sm_eq 7 _ _ h4)
      have e4 : e.2.2.2 = R := Option.some.inj hr
      obtain ⟨f1, f2, f3, f4⟩ := e
      cases e1; cases e2; cases e3; cases e4
      exact List.mem_cons_self
theorem q_run_hd {fuel d i : Nat} {cd rest : List q_I} {loc : Nat} {st : List Nat} {h : q_H} {R : q_R} (hr : q_run rg q_code mem fuel d i cd rest loc st h = some R) : ∃ e tl, rest = e :: tl := by
  cases rest with
  | nil =>
    cases fuel with
    | zero => cases hr
    | succ n => cases hr
  | cons e tl => exact ⟨e, tl, rfl⟩
theorem q_chn_at : ∀ (pre : List q_I) (a b : q_I) (t : List q_I), q_chn (pre ++ a :: b :: t) = true → b.1 = a.1 + a.2.1
  | [], a, b, t, h => by
    have h : (Nat.beq b.1 (a.1 + a.2.1) && q_chn (b :: t)) = true := h
    exact q_beq.mp (q_ands h).1
  | [x], a, b, t, h => by
    have h : (Nat.beq a.1 (x.1 + x.2.1) && q_chn (a :: b :: t)) = true := h
    exact q_chn_at [] a b t (q_ands h).2
  | x :: y :: pre, a, b, t, h => by
    have h : (Nat.beq y.1 (x.1 + x.2.1) && q_chn (y :: pre ++ a :: b :: t)) = true := h
    exact q_chn_at (y :: pre) a b t (q_ands h).2
theorem q_jm_suf : ∀ (cd : List q_I) (t : Nat), (q_jm cd t = [] ∨ ∃ pre e tl, cd = pre ++ q_jm cd t ∧ q_jm cd t = e :: tl ∧ e.1 = t)
  | [], _ => Or.inl rfl
  | e :: tl, t => by
    have hj : q_jm (e :: tl) t = Bool.rec (q_jm tl t) (e :: tl) (Nat.beq e.1 t) := rfl
    cases hb : Nat.beq e.1 t with
    | true =>
      rw [hb] at hj
      exact Or.inr ⟨[], e, tl, by rw [hj]; rfl, hj, q_beq.mp hb⟩
    | false =>
      rw [hb] at hj
      have hj : q_jm (e :: tl) t = q_jm tl t := hj
      rw [hj]
      rcases q_jm_suf tl t with h | ⟨pre, e', tl', h1, h2, h3⟩
      · exact Or.inl h
      · exact Or.inr ⟨e :: pre, e', tl', by rw [List.cons_append, ← h1], h2, h3⟩
/-- one instruction -/
theorem q_stp {ih : q_F} {d i pc ln x y z loc : Nat} {ins : Instr} {tl : List q_I} {st : List Nat} {h hf : q_H} {r : List Nat} (hrg : q_rgs env rg) (hcl : q_clok) (hok : ∀ i, i < q_nM → q_mok i) (ho1 : Cond.instanceMethod Lib.objectInit ∈ q_w0 ∧ Cond.code Lib.objectInit ⟨#[0xb1]⟩ 1 none ∈ q_w0) (ho2 : Cond.native arraycopyName ∈ q_w0 ∧ Cond.static arraycopyName ∈ q_w0 ∧ Cond.initialized "java/lang/System" ∈ q_w0)
    (hd : decode (q_b i) pc = .ok (ins, ln)) (hk : q_lnk i pc ln ins x y z) (hN : q_HN l base D env ih i pc ln tl) (hJ : q_HJ l base D env ih i) (hC : q_HC l base D env mem ih) (hr : q_step rg q_code mem ih d i (q_code i) pc ins x y z tl loc st h = some (hf, r)) : q_G l base D env d i pc loc st h hf r := by
  cases ins
  case iconst n => exact q_s_iconst hrg hd hk hN hr
  case bipush n => exact q_s_bipush hrg hd hk hN hr
  case sipush n => exact q_s_sipush hrg hd hk hN hr
  case ldc n => exact q_s_ldc hrg hd hk hN hr
  case ldc_w n => exact q_s_ldc_w hrg hd hk hN hr
  case lconst n => exact q_s_lconst hrg hd hk hN hr
  case aconst_null => exact q_s_null hrg hd hk hN hr
  case iload n => exact q_s_iload hrg hd hk hN hr
  case iload_n n => exact q_s_iload_n hrg hd hk hN hr
  case aload n => exact q_s_aload hrg hd hk hN hr
  case aload_n n => exact q_s_aload_n hrg hd hk hN hr
  case istore n => exact q_s_istore hrg hd hk hN hr
  case istore_n n => exact q_s_istore_n hrg hd hk hN hr
  case astore n => exact q_s_astore hrg hd hk hN hr
  case astore_n n => exact q_s_astore_n hrg hd hk hN hr
  case iinc n k => exact q_s_iinc hrg hd hk hN hr
  case iadd => exact q_s_iadd hrg hd hk hN hr
  case isub => exact q_s_isub hrg hd hk hN hr
  case imul => exact q_s_imul hrg hd hk hN hr
  case iand => exact q_s_iand hrg hd hk hN hr
  case ior => exact q_s_ior hrg hd hk hN hr
  case ixor => exact q_s_ixor hrg hd hk hN hr
  case ineg => exact q_s_ineg hrg hd hk hN hr
  case idiv => exact q_s_idiv hrg hd hk hN hr
  case irem => exact q_s_irem hrg hd hk hN hr
  case ishl => exact q_s_ishl hrg hd hk hN hr
  case ishr => exact q_s_ishr hrg hd hk hN hr
  case iushr => exact q_s_iushr hrg hd hk hN hr
  case i2b => exact q_s_i2b hrg hd hk hN hr
  case dup => exact q_s_dup hrg hd hk hN hr
  case dup2 => exact q_s_dup2 hrg hd hk hN hr
  case pop => exact q_s_pop hrg hd hk hN hr
  case ifCond c off => exact q_s_ifCond hrg hd hk hN hJ hr
  case if_icmp c off => exact q_s_if_icmp hrg hd hk hN hJ hr
  case ifnull off => exact q_s_ifnull hrg hd hk hN hr
  case ifnonnull off => exact q_s_ifnonnull hrg hd hk hN hJ hr
  case goto off => exact q_s_goto hrg hd hk hN hJ hr
  case tableswitch df lo hi offs => exact q_s_table hrg hd hk hN hJ hr
  case new n => exact q_s_new hrg hd hcl hk hN hr
  case newarray t => exact q_s_newa hrg hd hk hN hr
  case anewarray n => exact q_s_anewa hrg hd hk hN hr
  case arraylength => exact q_s_alen hrg hd hk hN hr
  case iaload => exact q_s_iaload hrg hd hk hN hr
  case baload => exact q_s_baload hrg hd hk hN hr
  case aaload => exact q_s_aaload hrg hd hk hN hr
  case iastore => exact q_s_iastore hrg hd hk hN hr
  case bastore => exact q_s_bastore hrg hd hk hN hr
  case aastore => exact q_s_aastore hrg hd hk hN hr
  case getfield n => exact q_s_get hrg hd hcl hk hN hr
  case putfield n => exact q_s_put hrg hd hcl hk hN hr
  case invokevirtual n => exact q_s_virt hok hC hd hk hN hr
  case invokestatic n =>
    by_cases hz : z = 77
    · exact q_s_copy hz ho2 hrg hd hk hN hr
    · exact q_s_stat hok hC hz hd hk hN hr
  case invokespecial n =>
    by_cases hz : z = 78
    · exact q_s_oinit hz ho1 hrg hd hk hN hr
    · exact q_s_spec hok hC hz hd hk hN hr
  case ireturn => exact q_s_iret hrg hd hk hN hr
  case areturn => exact q_s_aret hrg hd hk hN hr
  case return_ => exact q_s_ret hrg hd hk hN hr
  all_goals
    have hr : (none : Option q_R) = some (hf, r) := hr
    cases hr
theorem q_sound (hrg : q_rgs env rg) (hcl : q_clok) (hok : ∀ i, i < q_nM → q_mok i) (ho1 : Cond.instanceMethod Lib.objectInit ∈ q_w0 ∧ Cond.code Lib.objectInit ⟨#[0xb1]⟩ 1 none ∈ q_w0) (ho2 : Cond.native arraycopyName ∈ q_w0 ∧ Cond.static arraycopyName ∈ q_w0 ∧ Cond.initialized "java/lang/System" ∈ q_w0) (hmem : ∀ e ∈ mem, q_Met l base D env 5 e.1 e.2.1 e.2.2.1 e.2.2.2.1 e.2.2.2.2) :
    ∀ (fuel d i : Nat) (rest : List q_I) (loc : Nat) (st : List Nat) (h hf : q_H) (r : List Nat), i < q_nM → (∃ pre, q_code i = pre ++ rest) → q_run rg q_code mem fuel d i (q_code i) rest loc st h = some (hf, r) → ∀ e0 tl, rest = e0 :: tl → q_G l base D env d i e0.1 loc st h hf r := by
  intro fuel
  induction fuel with
  | zero => intro d i rest loc st h hf r _ _ hr; cases hr
  | succ n ih =>
    intro d i rest loc st h hf r hi hsuf hr e0 tl he
    subst he
    obtain ⟨pre, hpre⟩ := hsuf
    have hm := hok i hi
    have hr : q_step rg q_code mem (q_run rg q_code mem n) d i (q_code i) e0.1 e0.2.2.1 e0.2.2.2.1 e0.2.2.2.2.1 e0.2.2.2.2.2 tl loc st h = some (hf, r) := hr
    have hmem0 : e0 ∈ q_code i := by rw [hpre]; exact List.mem_append_right _ List.mem_cons_self
    obtain ⟨hd, hk⟩ := hm.2.2.2.2.2.2.2.2 e0 hmem0
    refine q_stp hrg hcl hok ho1 ho2 hd hk ?_ ?_ ?_ hr
    · intro d2 loc2 st2 h2 hf2 r2 hr2
      obtain ⟨e1, tl1, rfl⟩ := q_run_hd hr2
      have hch : q_chn (pre ++ e0 :: e1 :: tl1) = true := by rw [← hpre]; exact hm.2.2.2.2.2.2.1
      rw [← q_chn_at pre e0 e1 tl1 hch]
      exact ih d2 i (e1 :: tl1) loc2 st2 h2 hf2 r2 hi ⟨pre ++ [e0], by rw [hpre, List.append_assoc]; rfl⟩ hr2 e1 tl1 rfl
    · intro t d2 loc2 st2 h2 hf2 r2 hr2
      rcases q_jm_suf (q_code i) t with hj | ⟨pre2, e1, tl1, h1, h3, h4⟩
      · rw [hj] at hr2
        obtain ⟨e1, tl1, hx⟩ := q_run_hd hr2
        cases hx
      · rw [← h4]
        exact ih d2 i _ loc2 st2 h2 hf2 r2 hi ⟨pre2, h1⟩ hr2 e1 tl1 h3
    · intro d2 x as h2 h' rt hx hlen hno hcal
      unfold q_cal at hcal
      cases hl : q_lk mem x as h2 with
      | some R =>
        rw [hl] at hcal
        obtain ⟨h1, h3⟩ := q_bifs hcal
        have e9 := Option.some.inj h3
        subst e9
        exact ⟨5, q_blt.mp h1, hmem _ (q_lk_eq mem x as h2 _ hl)⟩
      | none =>
        rw [hl] at hcal
        cases d2 with
        | zero => cases hcal
        | succ d' =>
          have hcal : q_run rg q_code mem n d' x (q_code x) (q_code x) (q_pk as) [] h2 = some (h', rt) := hcal
          obtain ⟨e1, tl1, hx1⟩ := q_run_hd hcal
          have hmx := hok x hx
          obtain ⟨t0, ht0, ht1⟩ := hmx.2.2.2.2.2.2.2.1
          have e8 : e1.1 = 0 := by
            rw [hx1] at ht0
            have : e1 = t0 := Option.some.inj ht0
            rw [this]; exact ht1
          have hG := ih d' x (q_code x) (q_pk as) [] h2 h' rt hx ⟨[], rfl⟩ hcal e1 tl1 hx1
          rw [e8] at hG
          exact ⟨d', Nat.le_refl _, q_meth hmx hlen hno hG⟩
/-- THE EVALUATOR's RUN OF A METHOD IS ITS CONTRACT -/
theorem q_all (hrg : q_rgs env rg) (hcl : q_clok) (hok : ∀ i, i < q_nM → q_mok i) (ho1 : Cond.instanceMethod Lib.objectInit ∈ q_w0 ∧ Cond.code Lib.objectInit ⟨#[0xb1]⟩ 1 none ∈ q_w0) (ho2 : Cond.native arraycopyName ∈ q_w0 ∧ Cond.static arraycopyName ∈ q_w0 ∧ Cond.initialized "java/lang/System" ∈ q_w0) (hmem : ∀ e ∈ mem, q_Met l base D env 5 e.1 e.2.1 e.2.2.1 e.2.2.2.1 e.2.2.2.2)
    (fuel d x : Nat) (as : List Nat) (h hf : q_H) (r : List Nat) (hx : x < q_nM) (hlen : as.length ≤ q_ml x) (hno : ∀ c ∈ as, ¬ c = 4294967314) (hr : q_run rg q_code mem fuel d x (q_code x) (q_code x) (q_pk as) [] h = some (hf, r)) : q_Met l base D env d x as h hf r := by
  obtain ⟨e1, tl1, hx1⟩ := q_run_hd hr
  have hmx := hok x hx
  obtain ⟨t0, ht0, ht1⟩ := hmx.2.2.2.2.2.2.2.1
  have e8 : e1.1 = 0 := by
    rw [hx1] at ht0
    have : e1 = t0 := Option.some.inj ht0
    rw [this]; exact ht1
  have hG := q_sound hrg hcl hok ho1 ho2 hmem fuel d x (q_code x) (q_pk as) [] h hf r hx ⟨[], rfl⟩ hr e1 tl1 hx1
  rw [e8] at hG
  exact q_meth hmx hlen hno hG
end QM
