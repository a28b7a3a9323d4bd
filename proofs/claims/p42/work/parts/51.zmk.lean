/-! ===== a run is a contract ===== -/
section ZD
variable {l : Launch} {base : Nat} {D : va_G} {sa : Nat → Nat} {g : z_G} {J : va_W → List Nat → Prop}
theorem z_ofD {tt : Nat → z_T} {kw : List z_C} {d : Nat × Nat} {x : Nat} {av : List Value} {ws : va_W} {ts : List Nat} {post : Option Value → va_W → List Nat → Prop} (hmok : q_mok x) (h : va_D (q_A base) ws → z_Met l base D sa tt kw d x av ws ts post) : z_Met l base D sa tt kw d x av ws ts post := by
  by_cases hD : va_D (q_A base) ws
  · exact h hD
  · refine va_MetF (cc := q_b x) (maxL := q_ml x) (ret := q_rt x) hmok.2.1 rfl ?_
    intro p e s m args below meth c s₁ B hml hv
    obtain ⟨-, -, -, -, tys, -, -, -, hD9⟩ := hv
    exact absurd hD9 hD
theorem z_meth2 {post : Option Value → va_W → List Nat → Prop} {d : Nat × Nat} {x : Nat} {as : List z_C} {V : z_V} {os : List z_O} (hmok : q_mok x) (hok : z_Ok l base D sa g J d x 0 V (z_pad (q_ml x) (z_sl as)) [] [] os) (hro : z_all (z_rok q_code x d.2) os = true) (hm : V.2.2.2.2.2 = 0) (hlen : (z_sl as).length ≤ q_ml x) {ws : va_W} {ts : List Nat} {vs : List Value} {av : List Value} (hE : z_E V vs) (hF : z_Fs sa ws ts vs V.2.2.2.1) (hD9 : z_Ds sa g.1 (q_ad ws) ts vs V.2.2.2.2.1) (has : z_Sr sa (q_ad ws) ts vs as av) (hJ : ∀ ws' ts', z_Fr g.2.1 ws ts ws' ts' → J ws' ts') (hpo : ∀ v ws' ts', z_Po sa g.1 vs os v ws' ts' → post v ws' ts') : z_Met l base D sa g.1 g.2.1 d x av ws ts post := by
  refine va_MetF (cc := q_b x) (maxL := q_ml x) (ret := q_rt x) hmok.2.1 rfl ?_
  intro p e s m args below meth c s₁ B hml hv
  obtain ⟨rfl, hbase, hX, hT, tys, hw, hP, hK, hD⟩ := hv
  have hts := atoms_spec (ws := q_wy x) B.pre
  have hown : s.vm.findClass (q_y x).cls = some m.cls := findClass_of_methodNamed B.named
  have hin : meth.name = (q_y x).name := (name_of_methodNamed B.named B.method).1
  have hll := z_sl_len has
  have hl := lv_entry av (n := q_ml x) (by omega)
  rw [lg_entry_eq]
  generalize (lg_sl av ++ List.replicate (q_ml x - (lg_sl av).length) Slot.unset).toArray = ls at hl ⊢
  have hpl : (z_pad (q_ml x) (z_sl as)).length = q_ml x := by
    show (z_sl as ++ List.replicate (Nat.sub (q_ml x) (q_len (z_sl as))) (9, 0, 0)).length = _
    rw [List.length_append, List.length_replicate, q_len_eq, Nat.sub_eq]
    omega
  have hL : z_Lr sa (q_ad ws) ts vs (z_pad (q_ml x) (z_sl as)) (q_ml x) ls := ⟨hpl, _, hl, fun i cc hc => by
    have hc : (z_sl as ++ List.replicate (Nat.sub (q_ml x) (q_len (z_sl as))) (9, 0, 0))[i]? = some cc := hc
    rcases Nat.lt_or_ge i (z_sl as).length with hi | hi
    · rw [List.getElem?_append_left hi] at hc
      have := z_entry 0 has i cc hc
      rw [Nat.zero_add] at this
      exact this
    · rw [List.getElem?_append_right hi] at hc
      have := List.mem_of_getElem? hc
      rw [(List.mem_replicate.mp this).2]
      exact Or.inl rfl⟩
  have C : z_Cx base sa g.2.1 J x p s m av.toArray meth c ws ts := ⟨⟨B.exec, B.bytes, B.returns, hml, hown, fun w hw => hts w (List.mem_cons_of_mem _ hw), hX, B.notSynchronized, hin, hbase⟩, hT, hJ⟩
  have := hok p e s m av.toArray below meth c (MQ below (z_Qc base D g.1 g.2.1 ws ts (z_Po sa g.1 vs os)) av.toArray s (9 * d.2) (446 * d.2) (q_A base)) ws ts vs s.heap [] ls [] ws tys ts vs C ⟨hw, hP, hK, hD, va_S.rf, z_Fr.rf _ _ _⟩ ⟨List.prefix_rfl, hE, hF, hD9⟩ hL trivial (fun X hX => by cases hX) (fun o ho => z_rok_s hmok ho (z_all_iff.mp hro o ho) C)
  rw [hm] at this
  intro T hT X
  obtain ⟨t2, a1, o, b1, b2, ⟨⟨v9, ws9, tys9, ts9, c1, c2, c3, c4, c5, c6, c7⟩, c8⟩, b4⟩ := this T hT X
  exact ⟨t2, a1, o, b1, b2, ⟨⟨v9, ws9, tys9, ts9, c1, c2, c3, c4, c5, c6, hpo _ _ _ c7⟩, c8⟩, b4⟩
end ZD
/-- the args, the facts that are wanted -/
noncomputable def z_ia (ta : List z_C) (k : z_V → List z_C → Option (List z_O)) : z_V → List z_C → Option (List z_O) := List.rec (fun v acc => k v acc) (fun t _ ih v acc => z_ld v t (fun w c => ih w (acc ++ [c]))) ta
noncomputable def z_ip (ps : List (Nat × Nat × z_C)) (k : z_V → List z_C → Option (List z_O)) : z_V → List z_C → Option (List z_O) := List.rec (fun v cs => k v cs) (fun q _ ih v cs => bif Nat.beq (z_nth cs q.1).1 1 && Nat.ble q.2.1 100000 then z_ld v q.2.2 (fun w c => ih (z_addF w ((z_nth cs q.1).2.1, (z_nth cs q.1).2.2, z_kc q.2.1, c)) (cs ++ [c])) else none) ps
/-- an end is as told -/
noncomputable def z_oks (M : z_M) (cs : List z_C) (o : z_O) : Bool := (bif M.2.2.2.2.2.2.1 then (match o.2.2.2 with
  | [c] => z_any (fun t => z_fit o.2.1 t c) M.2.2.2.2.2.2.2.1
  | _ => false) else (match o.2.2.2 with
  | [] => true
  | _ => false)) && z_all (fun q : Nat × Nat × z_C => Nat.beq (z_nth cs q.1).1 1 && (Nat.ble q.2.1 100000 && (match z_fg o.2.1.2.2.2.1 (z_nth cs q.1).2.1 (z_kc q.2.1) with
  | none => false
  | some c => z_fit o.2.1 q.2.2 c))) M.2.2.2.2.2.2.2.2
def z_V0 : z_V := (1, 2147483648, 2147483648, [], [], 0)
noncomputable def z_ck (g : z_G) (cdt : Nat → List q_I) (fuel : Nat) (M : z_M) : Option (List z_O) := z_ia M.2.1 (fun V as => z_ip M.2.2.1 (fun W cs => match z_run (g.1, M.2.2.2.1, g.2.2) cdt fuel (M.2.2.2.2.2.1, M.2.2.2.2.1) M.1 (cdt M.1) (cdt M.1) W (z_pad (q_ml M.1) (z_sl as)) [] [] [] with
  | none => none
  | some os => bif z_all (z_rok cdt M.1 M.2.2.2.2.1) os && (z_all (z_oks M cs) os && Nat.ble (q_len (z_sl as)) (q_ml M.1)) then some [] else none) V as) z_V0 []
theorem z_V0_E : z_E z_V0 [.int 0] := by
  refine ⟨rfl, rfl, fun s v hs => ?_⟩
  match s, hs with
  | 0, hs =>
    cases hs
    exact ⟨by decide +kernel, by decide +kernel⟩
  | s + 1, hs => cases hs
theorem z_ia_s {sa : Nat → Nat} {tt : Nat → z_T} {vs0 : List Value} {ws : va_W} {ts : List Nat} {k : z_V → List z_C → Option (List z_O)} {R : List z_O} : ∀ {ta : List z_C} {V : z_V} {acc : List z_C} {vs accv av : List Value}, z_ia ta k V acc = some R → z_Sv sa tt vs0 ws ts V vs → z_Sr sa (q_ad ws) ts vs acc accv → z_Ta (q_ad ws) ts ta av → ∃ U cs vs', k U cs = some R ∧ vs <+: vs' ∧ z_Sv sa tt vs0 ws ts U vs' ∧ z_Sr sa (q_ad ws) ts vs' cs (accv ++ av) ∧ U.2.2.2.2.2 = V.2.2.2.2.2
  | [], V, acc, vs, accv, [], h, hv, hs, _ => ⟨V, acc, vs, h, List.prefix_rfl, hv, by rw [List.append_nil]; exact hs, rfl⟩
  | t :: ta, V, acc, vs, accv, v :: av, h, hv, hs, ht => by
    have h : z_ld V t (fun w c => z_ia ta k w (acc ++ [c])) = some R := h
    obtain ⟨W1, c1, vs2, k1, k2, k3, k4, k5⟩ := (z_ld_s (sa := sa) h hv.2.1 ht.1).rs hv
    obtain ⟨U, cs, vs', u1, u2, u3, u4, u5⟩ := z_ia_s k1 k3 (z_Sr.snoc k5 (z_Sr.mono k2 List.prefix_rfl List.prefix_rfl hs)) ht.2
    exact ⟨U, cs, vs', u1, k2.trans u2, u3, by rw [List.append_assoc] at u4; exact u4, u5.trans k4⟩
  | [], _, _, _, _, _ :: _, _, _, _, ht => ht.elim
  | _ :: _, _, _, _, _, [], _, _, _, ht => ht.elim
theorem z_ip_s {base : Nat} {sa : Nat → Nat} {tt : Nat → z_T} {vs0 : List Value} {ws : va_W} {ts : List Nat} {k : z_V → List z_C → Option (List z_O)} {R : List z_O} (hD : va_D (q_A base) ws) : ∀ {ps : List (Nat × Nat × z_C)} {V : z_V} {cs : List z_C} {vs bv out : List Value}, z_ip ps k V cs = some R → z_Sv sa tt vs0 ws ts V vs → z_Sr sa (q_ad ws) ts vs cs bv → z_Pf ws ts ps bv out → ∃ U cs' vs', k U cs' = some R ∧ vs <+: vs' ∧ z_Sv sa tt vs0 ws ts U vs' ∧ z_Sr sa (q_ad ws) ts vs' cs' out ∧ U.2.2.2.2.2 = V.2.2.2.2.2
  | [], V, cs, vs, bv, out, h, hv, hs, hp => by
    have hp : out = bv := hp
    subst hp
    exact ⟨V, cs, vs, h, List.prefix_rfl, hv, hs, rfl⟩
  | q :: ps, V, cs, vs, bv, out, h, hv, hs, hp => by
    have h : (bif Nat.beq (z_nth cs q.1).1 1 && Nat.ble q.2.1 100000 then z_ld V q.2.2 (fun w c => z_ip ps k (z_addF w ((z_nth cs q.1).2.1, (z_nth cs q.1).2.2, z_kc q.2.1, c)) (cs ++ [c])) else none) = some R := h
    obtain ⟨h1, h2⟩ := q_bifs h
    obtain ⟨h1, h3⟩ := q_ands h1
    have h1 := q_beq.mp h1
    have h3 := q_ble.mp h3
    obtain ⟨a, j, e, r, g1, g2, g3, g4, g5⟩ := hp
    obtain ⟨v, hv1, hv2⟩ := hs.nth q.1 (by omega)
    rw [g1] at hv1
    cases hv1
    obtain ⟨w1, w2⟩ := hv2.ref h1
    obtain ⟨W1, c1, vs2, k1, k2, k3, k4, k5⟩ := (z_ld_s (sa := sa) h2 hv.2.1 g4).rs hv
    obtain ⟨u1, u2⟩ := z_kc_v (sa := sa) (ad := q_ad ws) (ts := ts) k3.2.1 (show q.2.1 < 2147483648 by omega)
    have htag : ts[j]? = some (z_nth cs q.1).2.2 := by
      rcases w2 with w2 | ⟨j2, a2, w2, w3, w4⟩
      · cases w2
      · cases w2
        have hw3 : ∃ e2, ws[j2]? = some (a, e2) := by
          rw [List.getElem?_map] at w3
          cases h9 : ws[j2]? with
          | none => rw [h9] at w3; cases w3
          | some q9 =>
            rw [h9] at w3
            obtain ⟨a9, e9⟩ := q9
            cases w3
            exact ⟨e9, rfl⟩
        obtain ⟨e2, he2⟩ := hw3
        have ej : j = j2 := hD.1 j j2 _ _ g2 he2 rfl
        rw [ej]
        exact w4
    obtain ⟨U, cs', vs', z1, z2, z3, z4, z5⟩ := z_ip_s hD k1 (k3.addF ⟨a, j, q.2.1, e, nI q.2.1, r, z_gm k2 w1, g2, htag, u1, rfl, u2, g3, k5⟩) (z_Sr.snoc k5 (z_Sr.mono k2 List.prefix_rfl List.prefix_rfl hs)) g5
    exact ⟨U, cs', vs', z1, k2.trans z2, z3, z4, z5.trans k4⟩
