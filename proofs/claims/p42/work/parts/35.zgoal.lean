/-! ===== the goal: what a run of the evaluator means for the machine ===== -/
def z_byt : List (List Int32) := [[98, 101, 97, 99, 104, 32, 98, 121, 32, 104, 117, 116, 32, 119, 97, 108, 107, 101, 114, 32, 97, 116, 32, 115, 116, 114, 105, 100, 101, 32, 115, 108, 105, 112, 32, 116, 105, 100, 101, 32, 119, 105, 110, 100, 32, 100, 114, 97, 119, 32, 111, 114, 32, 97, 110, 100, 32, 110, 111, 116, 32, 114, 111, 119, 32, 99, 111, 108, 117, 109, 110, 32, 109, 105, 110, 117, 116, 101, 32, 110, 105, 103, 104, 116, 32, 116, 114, 111, 100, 32], [59, 40, 41, 60, 62, 61, 43, 45, 42, 47, 37]]
/-- the texts, and that they are packed -/
def z_Tx (base : Nat) (sa : Nat → Nat) (U : State) : Prop := (∃ adV, vk_S 2 z_lens z_byt sa adV (q_A base) U U.heap) ∧ vk_R "SandNights$Reader" 219 "beach by hut walker at stride slip tide wind draw or and not row column minute night trod " (sa 0) U ∧ vk_R "SandNights$Reader" 210 ";()<>=+-*/%" (sa 1) U ∧ va_Z "java/lang/String" "COMPACT_STRINGS" "Z" (.int 1) (q_A base) U U.heap ∧ va_Zq "jdk/internal/util/Preconditions" "SIOOBE_FORMATTER" "Ljava/util/function/BiFunction;" (q_A base) U U.heap
theorem z_Tx.go {base : Nat} {sa : Nat → Nat} {s U : State} {H : Heap} {locs : List Loc} (h : z_Tx base sa s) (hW : s.WarmedH U.vm) (hU : U.heap = H) (hS : va_S (q_A base) s.heap H locs) : z_Tx base sa U := by
  obtain ⟨⟨adV, h1⟩, h2, h3, h4, h5⟩ := h
  subst hU
  exact ⟨⟨adV, vk_S.moved hW.alike (h1.kept hS.2.1)⟩, h2.warm hW, h3.warm hW, va_Z.moved hW.alike (h4.kept hS.2.1), va_Zq.moved hW.alike (h5.kept hS.2.1)⟩
def z_Cx (base : Nat) (sa : Nat → Nat) (kw : List z_C) (J : va_W → List Nat → Prop) (i : Nat) (p : Program) (s : State) (m : MethodId) (args : Array Value) (meth : Method) (c : Code) (w0 : va_W) (t0 : List Nat) : Prop := q_Cx base i p s m args meth c ∧ z_Tx base sa s ∧ ∀ ws ts, z_Fr kw w0 t0 ws ts → J ws ts
/-- the heap -/
def z_Hp (base : Nat) (D : va_G) (tt : Nat → z_T) (kw : List z_C) (s : State) (w0 : va_W) (t0 : List Nat) (H : Heap) (locs : List Loc) (ws : va_W) (tys : List (ClassId × FieldType)) (ts : List Nat) : Prop := z_W tt ws tys ts ∧ va_P D q_cls ws H ∧ va_K D q_cls tys s ∧ va_D (q_A base) ws ∧ va_S (q_A base) s.heap H locs ∧ z_Fr kw w0 t0 ws ts
/-- the symbols -/
def z_Sv (sa : Nat → Nat) (tt : Nat → z_T) (vs0 : List Value) (ws : va_W) (ts : List Nat) (V : z_V) (vs : List Value) : Prop := vs0 <+: vs ∧ z_E V vs ∧ z_Fs sa ws ts vs V.2.2.2.1 ∧ z_Ds sa tt (q_ad ws) ts vs V.2.2.2.2.1
theorem z_Sv.ext {sa : Nat → Nat} {tt : Nat → z_T} {vs0 : List Value} {ws : va_W} {ts : List Nat} {V W : z_V} {vs vs' : List Value} (h : z_Sv sa tt vs0 ws ts V vs) (hv : vs <+: vs') (hE : z_E W vs') (hs : W.2.2.2 = V.2.2.2) : z_Sv sa tt vs0 ws ts W vs' := by
  obtain ⟨h1, h2, h3, h4⟩ := h
  refine ⟨h1.trans hv, hE, ?_, ?_⟩
  · rw [hs]
    exact h3.mono hv
  · rw [hs]
    exact h4.mono hv List.prefix_rfl List.prefix_rfl
/-- the measure of a loop -/
noncomputable def z_mu1 (X : z_X) (vs : List Value) (g : Nat × Nat) : Nat := match vs[X.2.1 + g.1]? with
  | some (.int x) => if g.2 = 0 then (z_nth X.2.2.1 g.1).2.2 - q_qb x else q_qb x - (z_nth X.2.2.1 g.1).2.1
  | _ => 0
noncomputable def z_mu (X : z_X) (vs : List Value) : Nat := (X.2.2.2.2.2.2.2.map (z_mu1 X vs)).sum
section ZG
variable (l : Launch) (base : Nat) (D : va_G) (sa : Nat → Nat) (g : z_G) (J : va_W → List Nat → Prop) (d : Nat × Nat) (i : Nat) (p : Program) (e : Env) (s : State) (m : MethodId) (args : Array Value) (below : List Frame) (meth : Method) (c : Code) (Q : State → Prop) (w0 : va_W) (t0 : List Nat) (vs0 : List Value)
/-- an end -/
def z_Fi (o : z_O) : Prop := ∀ (H : Heap) (locs : List Loc) (ls : Array Slot) (sv : List Value) (ws : va_W) (tys : List (ClassId × FieldType)) (ts : List Nat) (vs : List Value), z_Hp base D g.1 g.2.1 s w0 t0 H locs ws tys ts → z_Sv sa g.1 vs0 ws ts o.2.1 vs → z_Lr sa (q_ad ws) ts vs o.2.2.1 (q_ml i) ls → z_Sr sa (q_ad ws) ts vs o.2.2.2 sv → W p l e (q_rm d.1 (9 * d.2) (446 * d.2)) s m args below meth c H locs (9 * o.2.1.2.2.2.2.2) (446 * o.2.1.2.2.2.2.2) Q (F0 m o.1 ls sv)
/-- a loop that is being gone through: with a smaller measure it ends -/
def z_Hy (X : z_X) (vs : List Value) : Prop := X.2.1 + X.2.2.1.length ≤ vs.length ∧ (vs0.length ≤ X.2.1 ∧ ∀ q t, X.2.2.1[q]? = some t → t.1 = 0 → ∃ x, vs[X.2.1 + q]? = some (.int x)) ∧ ∀ (H : Heap) (locs : List Loc) (ls : Array Slot) (ws : va_W) (tys : List (ClassId × FieldType)) (ts : List Nat) (vs' : List Value), z_Hp base D g.1 g.2.1 s w0 t0 H locs ws tys ts → (∀ k, k < X.2.1 → vs'[k]? = vs[k]?) → vs'.length = X.2.1 + X.2.2.1.length → (∀ q t, X.2.2.1[q]? = some t → ∃ v, vs'[X.2.1 + q]? = some v ∧ z_tv (q_ad ws) ts t v) → z_Fs sa ws ts vs' X.2.2.2.2.2.1 → z_Lr sa (q_ad ws) ts vs' X.2.2.2.2.1 (q_ml i) ls → z_mu X vs' < z_mu X vs → W p l e (q_rm d.1 (9 * d.2) (446 * d.2)) s m args below meth c H locs (9 * X.2.2.2.2.2.2.1) (446 * X.2.2.2.2.2.2.1) Q (F0 m X.1 ls [])
end ZG
theorem z_mu_ext {X : z_X} {vs vs' : List Value} (h : X.2.1 + X.2.2.1.length ≤ vs.length) (hv : vs <+: vs') (hg : ∀ g ∈ X.2.2.2.2.2.2.2, g.1 < X.2.2.1.length) : z_mu X vs' = z_mu X vs := by
  unfold z_mu
  congr 1
  apply List.map_congr_left
  intro g hg2
  have h1 := hg g hg2
  have h2 : X.2.1 + g.1 < vs.length := by omega
  have h3 := z_gm hv (List.getElem?_eq_getElem h2)
  unfold z_mu1
  rw [h3, List.getElem?_eq_getElem h2]
/-- the machine at an instruction comes to one of the ends -/
def z_Ok (l : Launch) (base : Nat) (D : va_G) (sa : Nat → Nat) (g : z_G) (J : va_W → List Nat → Prop) (d : Nat × Nat) (i pc : Nat) (V : z_V) (L S : List z_C) (cx : List z_X) (os : List z_O) : Prop := ∀ (p : Program) (e : Env) (s : State) (m : MethodId) (args : Array Value) (below : List Frame) (meth : Method) (c : Code) (Q : State → Prop) (w0 : va_W) (t0 : List Nat) (vs0 : List Value) (H : Heap) (locs : List Loc) (ls : Array Slot) (sv : List Value) (ws : va_W) (tys : List (ClassId × FieldType)) (ts : List Nat) (vs : List Value),
    z_Cx base sa g.2.1 J i p s m args meth c w0 t0 → z_Hp base D g.1 g.2.1 s w0 t0 H locs ws tys ts → z_Sv sa g.1 vs0 ws ts V vs → z_Lr sa (q_ad ws) ts vs L (q_ml i) ls → z_Sr sa (q_ad ws) ts vs S sv →
    (∀ X ∈ cx, z_Hy l base D sa g d i p e s m args below meth c Q w0 t0 vs0 X vs) → (∀ o ∈ os, z_Fi l base D sa g d i p e s m args below meth c Q w0 t0 vs0 o) →
    W p l e (q_rm d.1 (9 * d.2) (446 * d.2)) s m args below meth c H locs (9 * V.2.2.2.2.2) (446 * V.2.2.2.2.2) Q (F0 m pc ls sv)
/-- the loops' own part: their measures speak of their symbols -/
def z_gx (cx : List z_X) : Prop := ∀ X ∈ cx, ∀ g ∈ X.2.2.2.2.2.2.2, g.1 < X.2.2.1.length
theorem z_Hy.ext {l : Launch} {base : Nat} {D : va_G} {sa : Nat → Nat} {g : z_G} {d : Nat × Nat} {i : Nat} {p : Program} {e : Env} {s : State} {m : MethodId} {args : Array Value} {below : List Frame} {meth : Method} {c : Code} {Q : State → Prop} {w0 : va_W} {t0 : List Nat} {vs0 vs vs' : List Value} {X : z_X} (h : z_Hy l base D sa g d i p e s m args below meth c Q w0 t0 vs0 X vs) (hg : ∀ g ∈ X.2.2.2.2.2.2.2, g.1 < X.2.2.1.length) (hv : vs <+: vs') : z_Hy l base D sa g d i p e s m args below meth c Q w0 t0 vs0 X vs' := by
  obtain ⟨h1, h2, h3⟩ := h
  have hle : vs.length ≤ vs'.length := hv.length_le
  refine ⟨by omega, ⟨h2.1, fun q t h4 h5 => (h2.2 q t h4 h5).imp fun x hx => z_gm hv hx⟩, fun H locs ls ws tys ts u a1 a2 a3 a4 a5 a6 a7 => h3 H locs ls ws tys ts u a1 (fun k hk => ?_) a3 a4 a5 a6 (by rw [← z_mu_ext h1 hv hg]; exact a7)⟩
  rw [a2 k hk]
  have h4 : k < vs.length := by omega
  rw [z_gm hv (List.getElem?_eq_getElem h4), List.getElem?_eq_getElem h4]
theorem z_app_inv {a b : Option (List z_O)} {os : List z_O} (h : z_app a b = some os) : ∃ x y, a = some x ∧ b = some y ∧ os = x ++ y := by
  match a, b, h with
  | some x, some y, h => exact ⟨x, y, rfl, rfl, (Option.some.inj h).symm⟩
  | none, _, h => cases h
  | some _, none, h => cases h
theorem z_fold_inv {α : Type} {f : α → Option (List z_O)} : ∀ {l : List α} {os : List z_O}, z_fold l f = some os → ∀ a ∈ l, ∃ x, f a = some x ∧ ∀ o ∈ x, o ∈ os
  | [], _, _, a, ha => by cases ha
  | b :: t, os, h, a, ha => by
    have h : z_app (f b) (z_fold t f) = some os := h
    obtain ⟨x, y, h1, h2, rfl⟩ := z_app_inv h
    rcases List.mem_cons.mp ha with rfl | ha
    · exact ⟨x, h1, fun o ho => List.mem_append_left _ ho⟩
    · obtain ⟨z, h3, h4⟩ := z_fold_inv h2 a ha
      exact ⟨z, h3, fun o ho => List.mem_append_right _ (h4 o ho)⟩
def z_HN (l : Launch) (base : Nat) (D : va_G) (sa : Nat → Nat) (g : z_G) (J : va_W → List Nat → Prop) (ih : z_F) (d : Nat × Nat) (i pc' : Nat) (tl : List q_I) (sp : List Nat) : Prop := ∀ (V : z_V) (L S : List z_C) (cx : List z_X) (os : List z_O), z_gx cx → ih d i (q_code i) tl V L S sp cx = some os → z_Ok l base D sa g J d i pc' V L S cx os
def z_HJ (l : Launch) (base : Nat) (D : va_G) (sa : Nat → Nat) (g : z_G) (J : va_W → List Nat → Prop) (ih : z_F) (d : Nat × Nat) (i : Nat) (sp : List Nat) : Prop := ∀ (t : Nat) (V : z_V) (L S : List z_C) (cx : List z_X) (os : List z_O), z_gx cx → ih d i (q_code i) (q_jm (q_code i) t) V L S sp cx = some os → z_Ok l base D sa g J d i t V L S cx os
