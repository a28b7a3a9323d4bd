/-! ===== the whole evaluator ===== -/
section ZW
variable {l : Launch} {base : Nat} {D : va_G} {sa : Nat → Nat} {g : z_G} {J : va_W → List Nat → Prop}
def z_HS (l : Launch) (base : Nat) (D : va_G) (sa : Nat → Nat) (g : z_G) (J : va_W → List Nat → Prop) (ih : z_F) (d : Nat × Nat) (i : Nat) (sp : List Nat) : Prop := ∀ (pre t1 : List q_I), q_code i = pre ++ t1 → ∀ (V : z_V) (L S : List z_C) (cx : List z_X) (os : List z_O), z_gx cx → ih d i (q_code i) t1 V L S sp cx = some os → ∃ e1 t2, t1 = e1 :: t2 ∧ z_Ok l base D sa g J d i e1.1 V L S cx os
/-- what stays open: calls of texts, and new -/
def z_OT (l : Launch) (base : Nat) (D : va_G) (sa : Nat → Nat) (g : z_G) (J : va_W → List Nat → Prop) : Prop := ∀ (ih : z_F) (d : Nat × Nat) (i pc ln x n : Nat) (tl : List q_I) (V : z_V) (L st : List z_C) (sp : List Nat) (cx : List z_X) (os : List z_O), decode (q_b i) pc = .ok (.invokevirtual n, ln) → z_lnk i pc ln (.invokevirtual n) x 88 99 → z_gx cx → z_HN l base D sa g J ih d i (pc + ln) tl sp → z_txt ih d i (q_code i) tl V L x st sp cx = some os → z_Ok l base D sa g J d i pc V L st cx os
def z_ON (l : Launch) (base : Nat) (D : va_G) (sa : Nat → Nat) (g : z_G) (J : va_W → List Nat → Prop) : Prop := ∀ (ih : z_F) (d : Nat × Nat) (i pc ln x y z n : Nat) (pre tl : List q_I) (V : z_V) (L st : List z_C) (sp : List Nat) (cx : List z_X) (os : List z_O), i < q_nM → q_code i = pre ++ (pc, ln, .new n, x, y, z) :: tl → z_gx cx → z_HS l base D sa g J ih d i sp → z_step g q_code ih d i (q_code i) pc (.new n) x y z tl V L st sp cx = some os → z_Ok l base D sa g J d i pc V L st cx os
theorem z_stp {ih : z_F} {d : Nat × Nat} {i pc ln x y z : Nat} {ins : Instr} {pre tl : List q_I} {V : z_V} {L st : List z_C} {sp : List Nat} {cx : List z_X} {os : List z_O} (hcl : q_clok) (hok : ∀ i, i < q_nM → q_mok i) (ho2 : Cond.native arraycopyName ∈ q_w0 ∧ Cond.static arraycopyName ∈ q_w0 ∧ Cond.initialized "java/lang/System" ∈ q_w0) (hbyte : ∀ t, (g.1 t).1 = 3 → ∀ (k : Nat) (w : Int32), (z_el (g.1 t).2.2.1 (k % (g.1 t).2.2.2.1)).1 ≤ q_qb w ∧ q_qb w ≤ (z_el (g.1 t).2.2.1 (k % (g.1 t).2.2.2.1)).2) (hmem : ∀ M ∈ g.2.2.2.2, z_Con l base D sa g.1 J M) (hOT : z_OT l base D sa g J) (hON : z_ON l base D sa g J)
    (hi : i < q_nM) (hpre : q_code i = pre ++ (pc, ln, ins, x, y, z) :: tl) (hd : decode (q_b i) pc = .ok (ins, ln)) (hk : q_lnk i pc ln ins x y z) (hk2 : z_lnk i pc ln ins x y z) (hgx : z_gx cx) (hN : z_HN l base D sa g J ih d i (pc + ln) tl sp) (hJ : z_HJ l base D sa g J ih d i sp) (hS : z_HS l base D sa g J ih d i sp) (hC : z_HC l base D sa g J ih) (hr : z_step g q_code ih d i (q_code i) pc ins x y z tl V L st sp cx = some os) : z_Ok l base D sa g J d i pc V L st cx os := by
  cases ins
  case iconst n => exact z_s_iconst hd hk hgx hN hr
  case bipush n => exact z_s_bipush hd hk hgx hN hr
  case sipush n => exact z_s_sipush hd hk hgx hN hr
  case ldc n => exact z_s_ldc hk2 hd hk hgx hN hr
  case ldc_w n => exact z_s_ldc_w hd hk hgx hN hr
  case ldc2_w n => exact z_s_ldc2_w hd hk2 hgx hN hr
  case lconst n => exact z_s_lconst hd hk2 hgx hN hr
  case aconst_null => exact z_s_null hd hk hgx hN hr
  case iload n => exact z_s_iload hd hk hgx hN hr
  case iload_n n => exact z_s_iload_n hd hk hgx hN hr
  case aload n => exact z_s_aload hd hk hgx hN hr
  case aload_n n => exact z_s_aload_n hd hk hgx hN hr
  case lload_n n => exact z_s_lload_n hd hk2 hgx hN hr
  case istore n => exact z_s_istore hd hk hgx hN hr
  case istore_n n => exact z_s_istore_n hd hk hgx hN hr
  case astore n => exact z_s_astore hd hk hgx hN hr
  case astore_n n => exact z_s_astore_n hd hk hgx hN hr
  case lstore_n n => exact z_s_lstore_n hd hk2 hgx hN hr
  case iinc n k => exact z_s_iinc hd hk hgx hN hr
  case iadd => exact z_s_iadd hd hk hgx hN hr
  case isub => exact z_s_isub hd hk hgx hN hr
  case imul => exact z_s_imul hd hk hgx hN hr
  case iand => exact z_s_iand hd hk hgx hN hr
  case ior => exact z_s_ior hd hk hgx hN hr
  case ixor => exact z_s_ixor hd hk hgx hN hr
  case ineg => exact z_s_ineg hd hk hgx hN hr
  case idiv => exact z_s_idiv hd hk hgx hN hr
  case irem => exact z_s_irem hd hk hgx hN hr
  case ishl => exact z_s_ishl hd hk hgx hN hr
  case ishr => exact z_s_ishr hd hk hgx hN hr
  case iushr => exact z_s_iushr hd hk hgx hN hr
  case i2b => exact z_s_i2b hd hk hgx hN hr
  case i2c => exact z_s_i2c hd hk2 hgx hN hr
  case i2l => exact z_s_i2l hd hk2 hgx hN hr
  case lmul => exact z_s_lmul hd hk2 hgx hN hr
  case ladd => exact z_s_ladd hd hk2 hgx hN hr
  case lor => exact z_s_lor hd hk2 hgx hN hr
  case lshl => exact z_s_lshl hd hk2 hgx hN hr
  case lcmp => exact z_s_lcmp hd hk2 hgx hN hr
  case dup => exact z_s_dup hd hk hgx hN hr
  case dup2 => exact z_s_dup2 hd hk hgx hN hr
  case pop => exact z_s_pop hd hk hgx hN hr
  case ifCond c off => exact z_s_ifCond hd hk hgx hN hJ hr
  case if_icmp c off => exact z_s_if_icmp hd hk hgx hN hJ hr
  case ifnull off => exact z_s_ifnull hd hk hgx hN hJ hr
  case ifnonnull off => exact z_s_ifnonnull hd hk hgx hN hJ hr
  case goto off => exact z_s_goto hd hk hgx hN hJ hr
  case tableswitch df lo hi offs => exact z_s_table hd hk hgx hN hJ hr
  case lookupswitch df ps => exact z_s_lookup hd hk2 hgx hN hJ hr
  case new n => exact hON ih d i pc ln x y z n pre tl V L st sp cx os hi hpre hgx hS hr
  case arraylength => exact z_s_alen hd hk hgx hN hr
  case iaload => exact z_s_iaload hd hk hgx hN hr
  case baload => exact z_s_baload hd hk hgx hN hr
  case laload => exact z_s_laload hd hk2 hgx hN hr
  case aaload => exact z_s_aaload hd hk hgx hN hr
  case iastore => exact z_s_iastore hd hk hgx hN hr
  case bastore => exact z_s_bastore hbyte hd hk hgx hN hr
  case lastore => exact z_s_lastore hd hk2 hgx hN hr
  case aastore => exact z_s_aastore hd hk hgx hN hr
  case getfield n => exact z_s_get hcl hd hk hgx hN hr
  case putfield n => exact z_s_put hcl hd hk hgx hN hr
  case invokevirtual n =>
    have hr : (bif Nat.beq z 99 && Nat.beq y 88 then z_txt ih d i (q_code i) tl V L x st sp cx else z_inv g q_code ih d i (q_code i) tl V L x y z st sp cx true) = some os := hr
    cases hb : (Nat.beq z 99 && Nat.beq y 88) with
    | true =>
      rw [q_ift _ _ hb] at hr
      have hz := q_beq.mp (q_ands hb).1
      have hy := q_beq.mp (q_ands hb).2
      subst hz
      subst hy
      exact hOT ih d i pc ln x n tl V L st sp cx os hd hk2 hgx hN hr
    | false =>
      rw [q_iff _ _ hb] at hr
      exact z_s_virt hok hC hmem hd hk hgx hN hr
  case invokestatic n =>
    have hr : (bif Nat.beq z 77 then z_cpy g ih d i (q_code i) tl V L st sp cx else z_inv g q_code ih d i (q_code i) tl V L x y z st sp cx false) = some os := hr
    cases hb : Nat.beq z 77 with
    | true =>
      rw [q_ift _ _ hb] at hr
      exact z_s_copy (q_beq.mp hb) ho2 hd hk hgx hN hr
    | false =>
      rw [q_iff _ _ hb] at hr
      exact z_s_stat hok hC hmem (q_bneq.mp hb) hd hk hgx hN hr
  case ireturn => exact z_s_iret hd hk hgx hN hr
  case areturn => exact z_s_aret hd hk hgx hN hr
  case return_ => exact z_s_ret hd hk hgx hN hr
  all_goals
    have hr : (none : Option (List z_O)) = some os := hr
    cases hr
theorem z_run_hd {fuel : Nat} {d : Nat × Nat} {i : Nat} {cd rest : List q_I} {V : z_V} {L st : List z_C} {sp : List Nat} {cx : List z_X} {os : List z_O} (hr : z_run g q_code fuel d i cd rest V L st sp cx = some os) : ∃ e tl, rest = e :: tl := by
  cases rest with
  | nil =>
    cases fuel with
    | zero => cases hr
    | succ n => cases hr
  | cons e tl => exact ⟨e, tl, rfl⟩
theorem z_run_s {n : Nat} {d : Nat × Nat} {i : Nat} {e0 : q_I} {cd tl : List q_I} {V : z_V} {L st : List z_C} {sp : List Nat} {cx : List z_X} : z_run g q_code (n + 1) d i cd (e0 :: tl) V L st sp cx = (bif z_any (fun q => Nat.beq q e0.1) sp then some [(e0.1, V, L, st)] else (match z_find (fun N : z_N => Nat.beq N.2.1 e0.1 && Nat.beq N.1 i) g.2.2.2.1 with
      | none => z_step g q_code (z_run g q_code n) d i cd e0.1 e0.2.2.1 e0.2.2.2.1 e0.2.2.2.2.1 e0.2.2.2.2.2 tl V L st sp cx
      | some N => (match st with
        | _ :: _ => none
        | [] => (match z_find (fun X : z_X => Nat.beq X.1 e0.1) cx with
          | some X => (fun th : List z_C => bif z_mt X V L th && z_ms X V th then some [] else none) (z_th X V L)
          | none => z_new N V L (fun X w LT => bif z_mt X V L (z_th X V L) then z_step g q_code (z_run g q_code n) d i cd e0.1 e0.2.2.1 e0.2.2.2.1 e0.2.2.2.2.1 e0.2.2.2.2.2 tl w LT [] sp (X :: cx) else none))))) := rfl
theorem z_sound (hcl : q_clok) (hok : ∀ i, i < q_nM → q_mok i) (hlk : ∀ i, i < q_nM → ∀ e ∈ q_code i, z_lnk i e.1 e.2.1 e.2.2.1 e.2.2.2.1 e.2.2.2.2.1 e.2.2.2.2.2) (ho2 : Cond.native arraycopyName ∈ q_w0 ∧ Cond.static arraycopyName ∈ q_w0 ∧ Cond.initialized "java/lang/System" ∈ q_w0) (hbyte : ∀ t, (g.1 t).1 = 3 → ∀ (k : Nat) (w : Int32), (z_el (g.1 t).2.2.1 (k % (g.1 t).2.2.2.1)).1 ≤ q_qb w ∧ q_qb w ≤ (z_el (g.1 t).2.2.1 (k % (g.1 t).2.2.2.1)).2) (hmem : ∀ M ∈ g.2.2.2.2, z_Con l base D sa g.1 J M) (hOT : z_OT l base D sa g J) (hON : z_ON l base D sa g J) :
    ∀ (fuel : Nat) (d : Nat × Nat) (i : Nat) (rest : List q_I) (V : z_V) (L st : List z_C) (sp : List Nat) (cx : List z_X) (os : List z_O), i < q_nM → (∃ pre, q_code i = pre ++ rest) → z_gx cx → z_run g q_code fuel d i (q_code i) rest V L st sp cx = some os → ∀ e0 tl, rest = e0 :: tl → z_Ok l base D sa g J d i e0.1 V L st cx os := by
  intro fuel
  induction fuel with
  | zero => intro d i rest V L st sp cx os _ _ _ hr; cases hr
  | succ n IH =>
    intro d i rest V L st sp cx os hi hsuf hgx hr e0 tl he
    subst he
    obtain ⟨pre, hpre⟩ := hsuf
    have hm := hok i hi
    have hmem0 : e0 ∈ q_code i := by rw [hpre]; exact List.mem_append_right _ List.mem_cons_self
    obtain ⟨hd, hk⟩ := hm.2.2.2.2.2.2.2.2 e0 hmem0
    have hk2 := hlk i hi e0 hmem0
    have hHS : z_HS l base D sa g J (z_run g q_code n) d i sp := by
      intro pre2 t1 h1 V2 L2 S2 cx2 os2 hgx2 hr2
      obtain ⟨e1, tl1, rfl⟩ := z_run_hd hr2
      exact ⟨e1, tl1, rfl, IH d i (e1 :: tl1) V2 L2 S2 sp cx2 os2 hi ⟨pre2, h1⟩ hgx2 hr2 e1 tl1 rfl⟩
    have hHN : z_HN l base D sa g J (z_run g q_code n) d i (e0.1 + e0.2.1) tl sp := by
      intro V2 L2 S2 cx2 os2 hgx2 hr2
      obtain ⟨e1, tl1, rfl⟩ := z_run_hd hr2
      have hch : q_chn (pre ++ e0 :: e1 :: tl1) = true := by rw [← hpre]; exact hm.2.2.2.2.2.2.1
      rw [← q_chn_at pre e0 e1 tl1 hch]
      exact IH d i (e1 :: tl1) V2 L2 S2 sp cx2 os2 hi ⟨pre ++ [e0], by rw [hpre, List.append_assoc]; rfl⟩ hgx2 hr2 e1 tl1 rfl
    have hHJ : z_HJ l base D sa g J (z_run g q_code n) d i sp := by
      intro t V2 L2 S2 cx2 os2 hgx2 hr2
      rcases q_jm_suf (q_code i) t with hj | ⟨pre2, e1, tl1, h1, h3, h4⟩
      · rw [hj] at hr2
        obtain ⟨e1, tl1, hx⟩ := z_run_hd hr2
        cases hx
      · rw [← h4]
        exact IH d i _ V2 L2 S2 sp cx2 os2 hi ⟨pre2, h1⟩ hgx2 hr2 e1 tl1 h3
    have hHC : z_HC l base D sa g J (z_run g q_code n) := by
      intro d2 x V2 L2 os2 hx hr2
      obtain ⟨e1, tl1, hx1⟩ := z_run_hd hr2
      have hmx := hok x hx
      obtain ⟨t0, ht0, ht1⟩ := hmx.2.2.2.2.2.2.2.1
      have e8 : e1.1 = 0 := by
        rw [hx1] at ht0
        have : e1 = t0 := Option.some.inj ht0
        rw [this]; exact ht1
      have := IH d2 x (q_code x) V2 L2 [] [] [] os2 hx ⟨[], rfl⟩ (fun X hX => by cases hX) hr2 e1 tl1 hx1
      rw [e8] at this
      exact this
    have hstep : ∀ (V2 : z_V) (L2 S2 : List z_C) (cx2 : List z_X) (os2 : List z_O), z_gx cx2 → z_step g q_code (z_run g q_code n) d i (q_code i) e0.1 e0.2.2.1 e0.2.2.2.1 e0.2.2.2.2.1 e0.2.2.2.2.2 tl V2 L2 S2 sp cx2 = some os2 → z_Ok l base D sa g J d i e0.1 V2 L2 S2 cx2 os2 := fun V2 L2 S2 cx2 os2 hgx2 hr2 => z_stp hcl hok ho2 hbyte hmem hOT hON hi (pre := pre) (ln := e0.2.1) hpre hd hk hk2 hgx2 hHN hHJ hHS hHC hr2
    rw [z_run_s] at hr
    cases hb : z_any (fun q => Nat.beq q e0.1) sp with
    | true =>
      rw [q_ift _ _ hb] at hr
      have e9 := Option.some.inj hr
      subst e9
      intro p e s m args below meth c Q w0 t0 vs0 H locs ls sv ws tys ts vs C hp hv hL hs hx hf
      exact hf _ (List.mem_singleton.mpr rfl) H locs ls sv ws tys ts vs hp hv hL hs
    | false =>
      rw [q_iff _ _ hb] at hr
      cases hN : z_find (fun N : z_N => Nat.beq N.2.1 e0.1 && Nat.beq N.1 i) g.2.2.2.1 with
      | none =>
        rw [hN] at hr
        exact hstep V L st cx os hgx hr
      | some N =>
        rw [hN] at hr
        cases st with
        | cons _ _ => cases hr
        | nil =>
          have hr : (match z_find (fun X : z_X => Nat.beq X.1 e0.1) cx with
            | some X => (fun th : List z_C => bif z_mt X V L th && z_ms X V th then some [] else none) (z_th X V L)
            | none => z_new N V L (fun X w LT => bif z_mt X V L (z_th X V L) then z_step g q_code (z_run g q_code n) d i (q_code i) e0.1 e0.2.2.1 e0.2.2.2.1 e0.2.2.2.2.1 e0.2.2.2.2.2 tl w LT [] sp (X :: cx) else none)) = some os := hr
          cases hX : z_find (fun X : z_X => Nat.beq X.1 e0.1) cx with
          | some X =>
            rw [hX] at hr
            obtain ⟨x1, x2⟩ := z_find_s hX
            have x2 := q_beq.mp x2
            obtain ⟨h1, h2⟩ := q_bifs hr
            obtain ⟨h1, h3⟩ := q_ands h1
            exact z_bk x1 x2 h1 h3
          | none =>
            rw [hX] at hr
            obtain ⟨X, w, h1, h2, h3, h4⟩ := z_new_s hr
            obtain ⟨h5, h6⟩ := q_bifs h1
            have n2 := (q_ands (z_find_s hN).2).1
            have n2 := q_beq.mp n2
            exact z_lp (fun hgx2 => hstep w X.2.2.2.2.1 [] (X :: cx) os hgx2 h6) h5 (h2.trans n2) h3 h4 hgx
end ZW
