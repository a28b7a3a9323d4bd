/-! ===== guard: the two answers, pair by pair; all its calls (printed by wip/p1/zall.py) ===== -/
def z_top : Nat := 0x100000000400000001000000004000000010000000040000000100000000400000001000000004000000010000000040000000100000000400000001000000004000000010000000040000000100000000400000001000000004000000010000000040000000100000000
theorem z_topg : ∀ j, j < 25 → q_get z_top j = 4294967296 := by decide +kernel
theorem z_imp {l : Launch} {y : MethodName} {ws : List Cond} {rm : Room} {Pc : Array Value → State → Prop} {Qc Qc' : Array Value → State → Outcome → State → Prop} {mc ms : Nat} {free : Addr → Prop} (hM : Met l y ws rm Pc Qc mc ms free) (h : ∀ a st o t, Qc a st o t → Qc' a st o t) : Met l y ws rm Pc Qc' mc ms free := fun p e h1 h2 h3 s m args below h4 h5 h6 h7 => by
  obtain ⟨n, o, a1, a2, a3, a4, a5⟩ := hM p e h1 h2 h3 s m args below h4 h5 h6 h7
  exact ⟨n, o, a1, a2, a3, h _ _ _ _ a4, a5⟩
theorem z_Wt {env : Nat → Int32} {N : Nat} {ws : va_W} {tys : List (ClassId × FieldType)} (h : q_W env (zh N) ws tys) : q_W env (zh z_top) ws tys := by
  obtain ⟨h1, h2, h3⟩ := h
  refine ⟨h1, h2, fun k hk => ?_⟩
  have hk2 : k < 96 := hk
  obtain ⟨a, e, g1, g2⟩ := h3 k hk
  refine ⟨a, e, g1, ?_⟩
  rw [zh_tg _ k (by omega)]
  rw [zh_tg _ k (by omega)] at g2
  by_cases e1 : k = 76
  · rw [if_pos e1] at g2 ⊢
    rcases g2 with ⟨ci, fs, k1, _⟩ | ⟨_, cA, t, f, k1, k2, k3, k4⟩ | ⟨k0, _⟩ | ⟨k0, _⟩ | ⟨k0, _⟩ | ⟨k0, _⟩
    · have k1 : 1 = 2 * ci := k1
      omega
    · refine Or.inr (Or.inl ⟨rfl, cA, t, f, k1, k2, k3, fun j hj => ?_⟩)
      have hj : j < 25 := hj
      show q_get z_top j ≤ 4294967311 ∧ q_v env [] (q_get z_top j) (.int (f j))
      rw [z_topg j hj]
      exact ⟨by decide, q_v.top [] (f j)⟩
    · exact absurd (show (1 : Nat) = 3 from k0) (by decide)
    · exact absurd (show (1 : Nat) = 5 from k0) (by decide)
    · exact absurd (show (1 : Nat) = 7 from k0) (by decide)
    · exact absurd (show (1 : Nat) = 9 from k0) (by decide)
  · rw [if_neg e1] at g2 ⊢
    exact g2
theorem zh_ss (N : Nat) : q_ss (zh N) = q_ss (zv z_w1) := q_ss_up (zv z_w1) 76 1 25 N (show 76 < 96 by decide) (show 96 ≤ 128 by decide) (by rw [zv_tg z_w1 76 (by decide), if_neg (by decide)]; decide +kernel)
theorem z_mt {l : Launch} {base : Nat} {D : va_G} {env : Nat → Int32} {d i : Nat} {as r : List Nat} {h : q_H} {N : Nat} (hM : q_Met l base D env d i as h (zh N) r) : q_Met l base D env d i as h (zh z_top) r := by
  obtain ⟨⟨h1, h2⟩, h3⟩ := hM
  have e : q_ss (zh N) = q_ss (zh z_top) := by rw [zh_ss, zh_ss]
  refine ⟨⟨h1, by rw [← e]; exact h2⟩, fun ad0 av hS => ?_⟩
  have := h3 ad0 av hS
  rw [e] at this
  refine z_imp this (fun a st o t hQ => ?_)
  obtain ⟨⟨v, ws, tys, k1, k2, k3, k4, k5⟩, k6⟩ := hQ
  exact ⟨⟨v, ws, tys, k1, k2, k3, z_Wt k4, k5⟩, k6⟩
theorem z_met (l : Launch) (base : Nat) (D : va_G) (env : Nat → Int32) {x : Nat} {as : List Nat} {h hf : q_H} {r : List Nat} (hx : x < q_nM) (hl : as.length ≤ q_ml x) (hn : ∀ c ∈ as, ¬ c = 4294967314) (hC : ZC 5 x as h (hf, r)) : q_Met l base D env 5 x as h hf r := by
  obtain ⟨f0, hf0⟩ := hC
  exact q_all (l := l) (base := base) (D := D) (env := env) (mem := []) (rg := z_rg) (fun i _ => ⟨Nat.zero_le _, q_qb_hi _⟩) q_clok_ok q_okm q_ho1 q_ho2 (fun _ h => by cases h) f0 5 x as h hf r hx hl hn (hf0 f0 (Nat.le_refl _))
/-- what a pair's calls are known to answer -/
noncomputable def z_me (a b : Nat) (gs : List Nat) : Nat → q_M := List.rec (fun _ => []) (fun g _ ih k => (191, [4294967348, k, 16, 0, a, b], q_h0, q_h0, [g]) :: ih (Nat.succ k)) gs
noncomputable def z_mem (a b : Nat) (gs : List Nat) (g : Nat) : q_M := (180, [4294967376, a, b], q_h0, zh z_top, [g]) :: z_me a b gs 0
noncomputable def z_gso (a b : Nat) (gs : List Nat) : Nat → Bool := List.rec (fun _ => true) (fun g _ ih k => Nat.beq (z_gt a b k 16 0) g && (Nat.blt k 4 && ih (Nat.succ k))) gs
theorem z_me_ok (l : Launch) (base : Nat) (D : va_G) (env : Nat → Int32) {a b : Nat} (ha : a < 16) (hb : b < 16) : ∀ (gs : List Nat) (k : Nat), z_gso a b gs k = true → ∀ e ∈ z_me a b gs k, q_Met l base D env 5 e.1 e.2.1 e.2.2.1 e.2.2.2.1 e.2.2.2.2
  | [], k, _, e, he => by cases he
  | g :: gs, k, h, e, he => by
    have h : (Nat.beq (z_gt a b k 16 0) g && (Nat.blt k 4 && z_gso a b gs (k + 1))) = true := h
    obtain ⟨h1, h2⟩ := q_ands h
    obtain ⟨h2, h3⟩ := q_ands h2
    have hk := q_blt.mp h2
    have he : e ∈ (191, [4294967348, k, 16, 0, a, b], q_h0, q_h0, [g]) :: z_me a b gs (k + 1) := he
    rcases List.mem_cons.mp he with rfl | he
    · refine z_met l base D env (x := 191) (by decide) (show 6 ≤ q_ml 191 by decide) (z_hc (by decide) (z_hc (z_ne (by omega)) (z_hc (by decide) (z_hc (by decide) (z_hc (z_ne (by omega)) (z_hc (z_ne (by omega)) z_hn)))))) ?_
      have := c191 (d := 3 - k) ha hb k 16 0 (by omega) (Nat.le_refl _) (by decide)
      rw [show 3 - k + k + 2 = 5 by omega, q_beq.mp h1] at this
      exact this
    · exact z_me_ok l base D env ha hb gs (k + 1) h3 e he
noncomputable def z_w4 (f : q_Bx → Bool) : Bool := f (0, 2147483647) && (f (2147483648, 2147483648) && (f (2147483649, 2147483649) && f (2147483650, 4294967295)))
noncomputable def z_row (a b : Nat) (r : List Nat × Nat) : Bool := z_gso a b r.1 0 && (Nat.beq (z_gr a b) r.2 && z_w4 (fun w => q_bxt (z_mem a b r.1 r.2) 66 67 [] [(Nat.add a 2147483648, Nat.add a 2147483648), (Nat.add b 2147483648, Nat.add b 2147483648), w]))
noncomputable def z_ra (a : Nat) (rs : List (List Nat × Nat)) : Bool := z_al (fun b => bif Nat.beq a b then true else z_row a b (q_nth rs ([], 0) b)) 16
