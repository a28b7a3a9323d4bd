/-! ===== every call keeps what holds ===== -/
section HO
variable {l : Launch} {base : Nat} {D : va_G} {sa : Nat → Nat} {ws : va_W} {ts : List Nat} {jx ax jm am Tx Tm : Nat}
theorem o_m_feed (hA : z_A0 l base D sa) (hI : h_I jx ax jm am ws ts) (hT : h_T2 jx jm Tx Tm ws) (v0 : Int32) (v1 : Int32) (v2 : Int32) (v3 : Int32) (v4 : Int32) : h_Op l base D sa 150 [.ref am, .int v0, .int v1, .int v2, .int v3, .int v4] ws ts (h_pI jx ax jm am Tx Tm) := by
  obtain ⟨b, N, hb, k1⟩ := h_bank9 hI
  obtain ⟨ac, xc, hpf⟩ := k1.pf hI.1.2 (av := [.ref am, .int v0, .int v1, .int v2, .int v3, .int v4]) (na := 6) rfl rfl
  rcases (show b = 0 ∨ b = 1 by omega) with rfl | rfl
  · have hc := r_feed0 hA (z_JQ_c base jm)
    have h := h_opC (av := [.ref am, .int v0, .int v1, .int v2, .int v3, .int v4]) hc hI.2.2.2 ⟨h_tvr hI.1.2 hI.2.2.1.tag, h_tint _ _ _, h_tint _ _ _, h_tint _ _ _, h_tint _ _ _, h_tint _ _ _, trivial⟩ (hpf [] _ rfl) (by decide +kernel) rfl rfl rfl rfl hI hT
    exact h
  · have hc := r_feed1 hA (z_JQ_c base jm)
    have h := h_opC (av := [.ref am, .int v0, .int v1, .int v2, .int v3, .int v4]) hc hI.2.2.2 ⟨h_tvr hI.1.2 hI.2.2.1.tag, h_tint _ _ _, h_tint _ _ _, h_tint _ _ _, h_tint _ _ _, h_tint _ _ _, trivial⟩ (hpf [] _ rfl) (by decide +kernel) rfl rfl rfl rfl hI hT
    exact h
theorem o_m_end (hA : z_A0 l base D sa) (hI : h_I jx ax jm am ws ts) (hT : h_T2 jx jm Tx Tm ws) (v0 : Int32) : h_Op l base D sa 82 [.ref am, .int v0] ws ts (h_pI jx ax jm am Tx Tm) := by
  obtain ⟨b, N, hb, k1⟩ := h_bank9 hI
  obtain ⟨ac, xc, hpf⟩ := k1.pf hI.1.2 (av := [.ref am, .int v0]) (na := 2) rfl rfl
  rcases (show b = 0 ∨ b = 1 by omega) with rfl | rfl
  · have hc := r_end0 hA (z_JQ_c base jm)
    have h := h_opC (av := [.ref am, .int v0]) hc hI.2.2.2 ⟨h_tvr hI.1.2 hI.2.2.1.tag, h_tint _ _ _, trivial⟩ (hpf [] _ rfl) (by decide +kernel) rfl rfl rfl rfl hI hT
    exact h
  · have hc := r_end1 hA (z_JQ_c base jm)
    have h := h_opC (av := [.ref am, .int v0]) hc hI.2.2.2 ⟨h_tvr hI.1.2 hI.2.2.1.tag, h_tint _ _ _, trivial⟩ (hpf [] _ rfl) (by decide +kernel) rfl rfl rfl rfl hI hT
    exact h
theorem o_m_beach (hA : z_A0 l base D sa) (hI : h_I jx ax jm am ws ts) (hT : h_T2 jx jm Tx Tm ws)  : h_Op l base D sa 158 [.ref am] ws ts (h_pI jx ax jm am Tx Tm) := h_opB (h_m_beach hA hI.1.2 hI.2.2.1 hI.2.2.2) (by decide +kernel) (by decide) (by decide) hI hT
theorem o_m_fault (hA : z_A0 l base D sa) (hI : h_I jx ax jm am ws ts) (hT : h_T2 jx jm Tx Tm ws) (v0 : Int32) : h_Op l base D sa 70 [.ref am, .int v0] ws ts (h_pI jx ax jm am Tx Tm) := by
  obtain ⟨b, N, hb, k1⟩ := h_bank9 hI
  obtain ⟨ac, xc, hpf⟩ := k1.pf hI.1.2 (av := [.ref am, .int v0]) (na := 2) rfl rfl
  rcases (show b = 0 ∨ b = 1 by omega) with rfl | rfl
  · have hc := r_fault0 hA (z_JQ_c base jm)
    have h := h_opC (av := [.ref am, .int v0]) hc hI.2.2.2 ⟨h_tvr hI.1.2 hI.2.2.1.tag, h_tint _ _ _, trivial⟩ (hpf [] _ rfl) (by decide +kernel) rfl rfl rfl rfl hI hT
    exact h
  · have hc := r_fault1 hA (z_JQ_c base jm)
    have h := h_opC (av := [.ref am, .int v0]) hc hI.2.2.2 ⟨h_tvr hI.1.2 hI.2.2.1.tag, h_tint _ _ _, trivial⟩ (hpf [] _ rfl) (by decide +kernel) rfl rfl rfl rfl hI hT
    exact h
theorem o_m_walker (hA : z_A0 l base D sa) (hI : h_I jx ax jm am ws ts) (hT : h_T2 jx jm Tx Tm ws) (v0 : Int32) (v1 : Int32) : h_Op l base D sa 117 [.ref am, .int v0, .int v1] ws ts (h_pI jx ax jm am Tx Tm) := by
  obtain ⟨b, N, hb, k1⟩ := h_bank9 hI
  obtain ⟨ac, xc, hpf⟩ := k1.pf hI.1.2 (av := [.ref am, .int v0, .int v1]) (na := 3) rfl rfl
  rcases (show b = 0 ∨ b = 1 by omega) with rfl | rfl
  · have hc := r_walker0 hA (z_JQ_c base jm)
    have h := h_opC (av := [.ref am, .int v0, .int v1]) hc hI.2.2.2 ⟨h_tvr hI.1.2 hI.2.2.1.tag, h_tint _ _ _, h_tint _ _ _, trivial⟩ (hpf [] _ rfl) (by decide +kernel) rfl rfl rfl rfl hI hT
    exact h
  · have hc := r_walker1 hA (z_JQ_c base jm)
    have h := h_opC (av := [.ref am, .int v0, .int v1]) hc hI.2.2.2 ⟨h_tvr hI.1.2 hI.2.2.1.tag, h_tint _ _ _, h_tint _ _ _, trivial⟩ (hpf [] _ rfl) (by decide +kernel) rfl rfl rfl rfl hI hT
    exact h
theorem o_m_sand (hA : z_A0 l base D sa) (hI : h_I jx ax jm am ws ts) (hT : h_T2 jx jm Tx Tm ws) (v0 : Int32) (v1 : Int32) : h_Op l base D sa 17 [.ref am, .int v0, .int v1] ws ts (h_pI jx ax jm am Tx Tm) := by
  obtain ⟨b, N, hb, k1⟩ := h_bank9 hI
  obtain ⟨ac, xc, hpf⟩ := k1.pf hI.1.2 (av := [.ref am, .int v0, .int v1]) (na := 3) rfl rfl
  rcases (show b = 0 ∨ b = 1 by omega) with rfl | rfl
  · have hc := r_sand0 hA (z_JQ_c base jm)
    have h := h_opC (av := [.ref am, .int v0, .int v1]) hc hI.2.2.2 ⟨h_tvr hI.1.2 hI.2.2.1.tag, h_tint _ _ _, h_tint _ _ _, trivial⟩ (hpf [] _ rfl) (by decide +kernel) rfl rfl rfl rfl hI hT
    exact h
  · have hc := r_sand1 hA (z_JQ_c base jm)
    have h := h_opC (av := [.ref am, .int v0, .int v1]) hc hI.2.2.2 ⟨h_tvr hI.1.2 hI.2.2.1.tag, h_tint _ _ _, h_tint _ _ _, trivial⟩ (hpf [] _ rfl) (by decide +kernel) rfl rfl rfl rfl hI hT
    exact h
theorem o_m_over (hA : z_A0 l base D sa) (hI : h_I jx ax jm am ws ts) (hT : h_T2 jx jm Tx Tm ws) (v0 : Int32) (v1 : Int32) : h_Op l base D sa 118 [.ref am, .int v0, .int v1] ws ts (h_pI jx ax jm am Tx Tm) := by
  obtain ⟨b, N, hb, k1⟩ := h_bank9 hI
  obtain ⟨ac, xc, hpf⟩ := k1.pf hI.1.2 (av := [.ref am, .int v0, .int v1]) (na := 3) rfl rfl
  rcases (show b = 0 ∨ b = 1 by omega) with rfl | rfl
  · have hc := r_over0 hA (z_JQ_c base jm)
    have h := h_opC (av := [.ref am, .int v0, .int v1]) hc hI.2.2.2 ⟨h_tvr hI.1.2 hI.2.2.1.tag, h_tint _ _ _, h_tint _ _ _, trivial⟩ (hpf [] _ rfl) (by decide +kernel) rfl rfl rfl rfl hI hT
    exact h
  · have hc := r_over1 hA (z_JQ_c base jm)
    have h := h_opC (av := [.ref am, .int v0, .int v1]) hc hI.2.2.2 ⟨h_tvr hI.1.2 hI.2.2.1.tag, h_tint _ _ _, h_tint _ _ _, trivial⟩ (hpf [] _ rfl) (by decide +kernel) rfl rfl rfl rfl hI hT
    exact h
theorem o_m_met (hA : z_A0 l base D sa) (hI : h_I jx ax jm am ws ts) (hT : h_T2 jx jm Tx Tm ws) (v0 : Int32) (v1 : Int32) : h_Op l base D sa 119 [.ref am, .int v0, .int v1] ws ts (h_pI jx ax jm am Tx Tm) := by
  obtain ⟨b, N, hb, k1⟩ := h_bank9 hI
  obtain ⟨ac, xc, hpf⟩ := k1.pf hI.1.2 (av := [.ref am, .int v0, .int v1]) (na := 3) rfl rfl
  rcases (show b = 0 ∨ b = 1 by omega) with rfl | rfl
  · have hc := r_met0 hA (z_JQ_c base jm)
    have h := h_opC (av := [.ref am, .int v0, .int v1]) hc hI.2.2.2 ⟨h_tvr hI.1.2 hI.2.2.1.tag, h_tint _ _ _, h_tint _ _ _, trivial⟩ (hpf [] _ rfl) (by decide +kernel) rfl rfl rfl rfl hI hT
    exact h
  · have hc := r_met1 hA (z_JQ_c base jm)
    have h := h_opC (av := [.ref am, .int v0, .int v1]) hc hI.2.2.2 ⟨h_tvr hI.1.2 hI.2.2.1.tag, h_tint _ _ _, h_tint _ _ _, trivial⟩ (hpf [] _ rfl) (by decide +kernel) rfl rfl rfl rfl hI hT
    exact h
theorem o_m_prints (hA : z_A0 l base D sa) (hI : h_I jx ax jm am ws ts) (hT : h_T2 jx jm Tx Tm ws)  : h_Op l base D sa 55 [.ref am] ws ts (h_pI jx ax jm am Tx Tm) := by
  obtain ⟨b, N, hb, k1⟩ := h_bank9 hI
  obtain ⟨ac, xc, hpf⟩ := k1.pf hI.1.2 (av := [.ref am]) (na := 1) rfl rfl
  rcases (show b = 0 ∨ b = 1 by omega) with rfl | rfl
  · have hc := r_prints0 hA (z_JQ_c base jm)
    have h := h_opC (av := [.ref am]) hc hI.2.2.2 ⟨h_tvr hI.1.2 hI.2.2.1.tag, trivial⟩ (hpf [] _ rfl) (by decide +kernel) rfl rfl rfl rfl hI hT
    exact h
  · have hc := r_prints1 hA (z_JQ_c base jm)
    have h := h_opC (av := [.ref am]) hc hI.2.2.2 ⟨h_tvr hI.1.2 hI.2.2.1.tag, trivial⟩ (hpf [] _ rfl) (by decide +kernel) rfl rfl rfl rfl hI hT
    exact h
theorem o_m_step (hA : z_A0 l base D sa) (hI : h_I jx ax jm am ws ts) (hT : h_T2 jx jm Tx Tm ws) (v0 : Int32) (v1 : Int32) : h_Op l base D sa 120 [.ref am, .int v0, .int v1] ws ts (h_pI jx ax jm am Tx Tm) := h_opM (h_m_step hA hI.1.2 hI.2.2.1 v0 v1) (by decide +kernel) (by decide +kernel) (by decide) (by decide) hI hT
theorem o_m_minute (hA : z_A0 l base D sa) (hI : h_I jx ax jm am ws ts) (hT : h_T2 jx jm Tx Tm ws)  : h_Op l base D sa 165 [.ref am] ws ts (h_pI jx ax jm am Tx Tm) := h_opM (h_m_minute hA hI.1.2 hI.2.2.1 hI.2.2.2) (by decide +kernel) (by decide +kernel) (by decide) (by decide) hI hT
theorem o_m_night (hA : z_A0 l base D sa) (hI : h_I jx ax jm am ws ts) (hT : h_T2 jx jm Tx Tm ws)  : h_Op l base D sa 169 [.ref am] ws ts (h_pI jx ax jm am Tx Tm) := h_opM (h_m_night hA hI.1.2 hI.2.2.1) (by decide +kernel) (by decide +kernel) (by decide) (by decide) hI hT
theorem o_m_undo (hA : z_A0 l base D sa) (hI : h_I jx ax jm am ws ts) (hT : h_T2 jx jm Tx Tm ws)  : h_Op l base D sa 171 [.ref am] ws ts (h_pI jx ax jm am Tx Tm) := h_opM (h_m_undo hA.2.1 hA.1 hI.1.2 hI.2.2.1) (by decide +kernel) (by decide +kernel) (by decide) (by decide) hI hT
theorem o_m_redo (hA : z_A0 l base D sa) (hI : h_I jx ax jm am ws ts) (hT : h_T2 jx jm Tx Tm ws)  : h_Op l base D sa 173 [.ref am] ws ts (h_pI jx ax jm am Tx Tm) := h_opM (h_m_redo hA.2.1 hA.1 hI.1.2 hI.2.2.1) (by decide +kernel) (by decide +kernel) (by decide) (by decide) hI hT
theorem o_m_way (hA : z_A0 l base D sa) (hI : h_I jx ax jm am ws ts) (hT : h_T2 jx jm Tx Tm ws) (v0 : Int32) (v1 : Int32) : h_Op l base D sa 123 [.ref am, .int v0, .int v1] ws ts (h_pI jx ax jm am Tx Tm) := by
  obtain ⟨b, N, hb, k1⟩ := h_bank9 hI
  obtain ⟨ac, xc, hpf⟩ := k1.pf hI.1.2 (av := [.ref am, .int v0, .int v1]) (na := 3) rfl rfl
  exact ⟨(h_Mway b).2.2.2.1, 4, 0, by decide, by decide, z_ofW (fun tys hw hD => ((h_con_way hA.2.1 hA.1 (J := h_posJ) (fun _ _ h => h) hb) ws ts [.ref am, .int v0, .int v1] _ ⟨h_tvr hI.1.2 hI.2.2.1.tag, h_tint _ _ _, h_tint _ _ _, trivial⟩ (hpf [] _ rfl) (h_posof hw hD hI.2.2.1)).imp2 (fun _ _ _ _ _ _ hf hcp => ⟨h_cpv rfl rfl hcp, hI.fr (show h_kI h_kway = true from by decide +kernel) hf hT⟩))⟩
theorem o_m_ways (hA : z_A0 l base D sa) (hI : h_I jx ax jm am ws ts) (hT : h_T2 jx jm Tx Tm ws) (v0 : Int32) (v1 : Int32) : h_Op l base D sa 124 [.ref am, .int v0, .int v1] ws ts (h_pI jx ax jm am Tx Tm) := by
  obtain ⟨b, N, hb, k1⟩ := h_bank9 hI
  obtain ⟨ac, xc, hpf⟩ := k1.pf hI.1.2 (av := [.ref am, .int v0, .int v1]) (na := 3) rfl rfl
  rcases (show b = 0 ∨ b = 1 by omega) with rfl | rfl
  · have hc := r_ways0 hA (z_JQ_c base jm)
    have h := h_opC (av := [.ref am, .int v0, .int v1]) hc hI.2.2.2 ⟨h_tvr hI.1.2 hI.2.2.1.tag, h_tint _ _ _, h_tint _ _ _, trivial⟩ (hpf [] _ rfl) (by decide +kernel) rfl rfl rfl rfl hI hT
    exact h
  · have hc := r_ways1 hA (z_JQ_c base jm)
    have h := h_opC (av := [.ref am, .int v0, .int v1]) hc hI.2.2.2 ⟨h_tvr hI.1.2 hI.2.2.1.tag, h_tint _ _ _, h_tint _ _ _, trivial⟩ (hpf [] _ rfl) (by decide +kernel) rfl rfl rfl rfl hI hT
    exact h
theorem o_m_sly (hA : z_A0 l base D sa) (hI : h_I jx ax jm am ws ts) (hT : h_T2 jx jm Tx Tm ws) (v0 : Int32) (v1 : Int32) (v2 : Int32) : h_Op l base D sa 125 [.ref am, .int v0, .int v1, .int v2] ws ts (h_pI jx ax jm am Tx Tm) := by
  obtain ⟨b, N, hb, k1⟩ := h_bank9 hI
  obtain ⟨ac, xc, hpf⟩ := k1.pf hI.1.2 (av := [.ref am, .int v0, .int v1, .int v2]) (na := 4) rfl rfl
  exact ⟨(h_Msly b).2.2.2.1, 4, 0, by decide, by decide, z_ofW (fun tys hw hD => ((h_con_sly hA.2.1 hA.1 (J := h_posJ) (fun _ _ h => h) hb) ws ts [.ref am, .int v0, .int v1, .int v2] _ ⟨h_tvr hI.1.2 hI.2.2.1.tag, h_tint _ _ _, h_tint _ _ _, h_tint _ _ _, trivial⟩ (hpf [] _ rfl) (h_posof hw hD hI.2.2.1)).imp2 (fun _ _ _ _ _ _ hf hcp => ⟨h_cpv rfl rfl hcp, hI.fr (show h_kI h_kway = true from by decide +kernel) hf hT⟩))⟩
theorem o_m_reach (hA : z_A0 l base D sa) (hI : h_I jx ax jm am ws ts) (hT : h_T2 jx jm Tx Tm ws) (v0 : Int32) (v1 : Int32) : h_Op l base D sa 126 [.ref am, .int v0, .int v1] ws ts (h_pI jx ax jm am Tx Tm) := by
  obtain ⟨b, N, hb, k1⟩ := h_bank9 hI
  obtain ⟨ac, xc, hpf⟩ := k1.pf hI.1.2 (av := [.ref am, .int v0, .int v1]) (na := 3) rfl rfl
  rcases (show b = 0 ∨ b = 1 by omega) with rfl | rfl
  · have hc := r_reach0 hA (z_JQ_c base jm)
    have h := h_opC (av := [.ref am, .int v0, .int v1]) hc hI.2.2.2 ⟨h_tvr hI.1.2 hI.2.2.1.tag, h_tint _ _ _, h_tint _ _ _, trivial⟩ (hpf [] _ rfl) (by decide +kernel) rfl rfl rfl rfl hI hT
    exact h
  · have hc := r_reach1 hA (z_JQ_c base jm)
    have h := h_opC (av := [.ref am, .int v0, .int v1]) hc hI.2.2.2 ⟨h_tvr hI.1.2 hI.2.2.1.tag, h_tint _ _ _, h_tint _ _ _, trivial⟩ (hpf [] _ rfl) (by decide +kernel) rfl rfl rfl rfl hI hT
    exact h
theorem o_m_parts (hA : z_A0 l base D sa) (hI : h_I jx ax jm am ws ts) (hT : h_T2 jx jm Tx Tm ws)  : h_Op l base D sa 177 [.ref am] ws ts (h_pI jx ax jm am Tx Tm) := by
  obtain ⟨b, N, hb, k1⟩ := h_bank9 hI
  obtain ⟨ac, xc, hpf⟩ := k1.pf hI.1.2 (av := [.ref am]) (na := 1) rfl rfl
  rcases (show b = 0 ∨ b = 1 by omega) with rfl | rfl
  · have hc := r_parts0 hA (z_JQ_c base jm)
    have h := h_opC (av := [.ref am]) hc hI.2.2.2 ⟨h_tvr hI.1.2 hI.2.2.1.tag, trivial⟩ (hpf [] _ rfl) (by decide +kernel) rfl rfl rfl rfl hI hT
    exact h
  · have hc := r_parts1 hA (z_JQ_c base jm)
    have h := h_opC (av := [.ref am]) hc hI.2.2.2 ⟨h_tvr hI.1.2 hI.2.2.1.tag, trivial⟩ (hpf [] _ rfl) (by decide +kernel) rfl rfl rfl rfl hI hT
    exact h
theorem o_m_join (hA : z_A0 l base D sa) (hI : h_I jx ax jm am ws ts) (hT : h_T2 jx jm Tx Tm ws) (v0 : Int32) (v1 : Int32) (v2 : Int32) : h_Op l base D sa 128 [.ref am, .int v0, .int v1, .int v2] ws ts (h_pI jx ax jm am Tx Tm) := by
  obtain ⟨b, N, hb, k1⟩ := h_bank9 hI
  obtain ⟨ac, xc, hpf⟩ := k1.pf hI.1.2 (av := [.ref am, .int v0, .int v1, .int v2]) (na := 4) rfl rfl
  rcases (show b = 0 ∨ b = 1 by omega) with rfl | rfl
  · have hc := r_join0 hA (z_JQ_c base jm)
    have h := h_opC (av := [.ref am, .int v0, .int v1, .int v2]) hc hI.2.2.2 ⟨h_tvr hI.1.2 hI.2.2.1.tag, h_tint _ _ _, h_tint _ _ _, h_tint _ _ _, trivial⟩ (hpf [] _ rfl) (by decide +kernel) rfl rfl rfl rfl hI hT
    exact h
  · have hc := r_join1 hA (z_JQ_c base jm)
    have h := h_opC (av := [.ref am, .int v0, .int v1, .int v2]) hc hI.2.2.2 ⟨h_tvr hI.1.2 hI.2.2.1.tag, h_tint _ _ _, h_tint _ _ _, h_tint _ _ _, trivial⟩ (hpf [] _ rfl) (by decide +kernel) rfl rfl rfl rfl hI hT
    exact h
theorem o_m_rounds (hA : z_A0 l base D sa) (hI : h_I jx ax jm am ws ts) (hT : h_T2 jx jm Tx Tm ws) (v0 : Int32) (v1 : Int32) : h_Op l base D sa 129 [.ref am, .int v0, .int v1] ws ts (h_pI jx ax jm am Tx Tm) := by
  obtain ⟨b, N, hb, k1⟩ := h_bank9 hI
  obtain ⟨ac, xc, hpf⟩ := k1.pf hI.1.2 (av := [.ref am, .int v0, .int v1]) (na := 3) rfl rfl
  rcases (show b = 0 ∨ b = 1 by omega) with rfl | rfl
  · have hc := r_rounds0 hA (z_JQ_c base jm)
    have h := h_opC (av := [.ref am, .int v0, .int v1]) hc hI.2.2.2 ⟨h_tvr hI.1.2 hI.2.2.1.tag, h_tint _ _ _, h_tint _ _ _, trivial⟩ (hpf [] _ rfl) (by decide +kernel) rfl rfl rfl rfl hI hT
    exact h
  · have hc := r_rounds1 hA (z_JQ_c base jm)
    have h := h_opC (av := [.ref am, .int v0, .int v1]) hc hI.2.2.2 ⟨h_tvr hI.1.2 hI.2.2.1.tag, h_tint _ _ _, h_tint _ _ _, trivial⟩ (hpf [] _ rfl) (by decide +kernel) rfl rfl rfl rfl hI hT
    exact h
theorem o_m_guard (hA : z_A0 l base D sa) (hI : h_I jx ax jm am ws ts) (hT : h_T2 jx jm Tx Tm ws) (v0 : Int32) (v1 : Int32) (v2 : Int32) : h_Op l base D sa 67 [.ref am, .int v0, .int v1, .int v2] ws ts (h_pI jx ax jm am Tx Tm) := by
  obtain ⟨b, N, hb, k1⟩ := h_bank9 hI
  obtain ⟨ac, xc, hpf⟩ := k1.pf hI.1.2 (av := [.ref am, .int v0, .int v1, .int v2]) (na := 4) rfl rfl
  rcases (show b = 0 ∨ b = 1 by omega) with rfl | rfl
  · have hc := r_guard0 hA (z_JQ_c base jm)
    have h := h_opC (av := [.ref am, .int v0, .int v1, .int v2]) hc hI.2.2.2 ⟨h_tvr hI.1.2 hI.2.2.1.tag, h_tint _ _ _, h_tint _ _ _, h_tint _ _ _, trivial⟩ (hpf [] _ rfl) (by decide +kernel) rfl rfl rfl rfl hI hT
    exact h
  · have hc := r_guard1 hA (z_JQ_c base jm)
    have h := h_opC (av := [.ref am, .int v0, .int v1, .int v2]) hc hI.2.2.2 ⟨h_tvr hI.1.2 hI.2.2.1.tag, h_tint _ _ _, h_tint _ _ _, h_tint _ _ _, trivial⟩ (hpf [] _ rfl) (by decide +kernel) rfl rfl rfl rfl hI hT
    exact h
theorem o_m_trail (hA : z_A0 l base D sa) (hI : h_I jx ax jm am ws ts) (hT : h_T2 jx jm Tx Tm ws) (v0 : Int32) : h_Op l base D sa 130 [.ref am, .int v0] ws ts (h_pI jx ax jm am Tx Tm) := by
  obtain ⟨b, N, hb, k1⟩ := h_bank9 hI
  obtain ⟨ac, xc, hpf⟩ := k1.pf hI.1.2 (av := [.ref am, .int v0]) (na := 2) rfl rfl
  rcases (show b = 0 ∨ b = 1 by omega) with rfl | rfl
  · have hc := r_trail0 hA (z_JQ_c base jm)
    have h := h_opC (av := [.ref am, .int v0]) hc hI.2.2.2 ⟨h_tvr hI.1.2 hI.2.2.1.tag, h_tint _ _ _, trivial⟩ (hpf [] _ rfl) (by decide +kernel) rfl rfl rfl rfl hI hT
    exact h
  · have hc := r_trail1 hA (z_JQ_c base jm)
    have h := h_opC (av := [.ref am, .int v0]) hc hI.2.2.2 ⟨h_tvr hI.1.2 hI.2.2.1.tag, h_tint _ _ _, trivial⟩ (hpf [] _ rfl) (by decide +kernel) rfl rfl rfl rfl hI hT
    exact h
theorem o_m_ghost (hA : z_A0 l base D sa) (hI : h_I jx ax jm am ws ts) (hT : h_T2 jx jm Tx Tm ws) (v0 : Int32) (v1 : Int32) : h_Op l base D sa 131 [.ref am, .int v0, .int v1] ws ts (h_pI jx ax jm am Tx Tm) := by
  obtain ⟨b, N, hb, k1⟩ := h_bank9 hI
  obtain ⟨ac, xc, hpf⟩ := k1.pf hI.1.2 (av := [.ref am, .int v0, .int v1]) (na := 3) rfl rfl
  rcases (show b = 0 ∨ b = 1 by omega) with rfl | rfl
  · have hc := r_ghost0 hA (z_JQ_c base jm)
    have h := h_opC (av := [.ref am, .int v0, .int v1]) hc hI.2.2.2 ⟨h_tvr hI.1.2 hI.2.2.1.tag, h_tint _ _ _, h_tint _ _ _, trivial⟩ (hpf [] _ rfl) (by decide +kernel) rfl rfl rfl rfl hI hT
    exact h
  · have hc := r_ghost1 hA (z_JQ_c base jm)
    have h := h_opC (av := [.ref am, .int v0, .int v1]) hc hI.2.2.2 ⟨h_tvr hI.1.2 hI.2.2.1.tag, h_tint _ _ _, h_tint _ _ _, trivial⟩ (hpf [] _ rfl) (by decide +kernel) rfl rfl rfl rfl hI hT
    exact h
theorem o_m_first (hA : z_A0 l base D sa) (hI : h_I jx ax jm am ws ts) (hT : h_T2 jx jm Tx Tm ws) (v0 : Int32) (v1 : Int32) : h_Op l base D sa 132 [.ref am, .int v0, .int v1] ws ts (h_pI jx ax jm am Tx Tm) := by
  obtain ⟨b, N, hb, k1⟩ := h_bank9 hI
  obtain ⟨ac, xc, hpf⟩ := k1.pf hI.1.2 (av := [.ref am, .int v0, .int v1]) (na := 3) rfl rfl
  rcases (show b = 0 ∨ b = 1 by omega) with rfl | rfl
  · have hc := r_first0 hA (z_JQ_c base jm)
    have h := h_opC (av := [.ref am, .int v0, .int v1]) hc hI.2.2.2 ⟨h_tvr hI.1.2 hI.2.2.1.tag, h_tint _ _ _, h_tint _ _ _, trivial⟩ (hpf [] _ rfl) (by decide +kernel) rfl rfl rfl rfl hI hT
    exact h
  · have hc := r_first1 hA (z_JQ_c base jm)
    have h := h_opC (av := [.ref am, .int v0, .int v1]) hc hI.2.2.2 ⟨h_tvr hI.1.2 hI.2.2.1.tag, h_tint _ _ _, h_tint _ _ _, trivial⟩ (hpf [] _ rfl) (by decide +kernel) rfl rfl rfl rfl hI hT
    exact h
theorem o_m_alone (hA : z_A0 l base D sa) (hI : h_I jx ax jm am ws ts) (hT : h_T2 jx jm Tx Tm ws) (v0 : Int32) : h_Op l base D sa 133 [.ref am, .int v0] ws ts (h_pI jx ax jm am Tx Tm) := by
  obtain ⟨b, N, hb, k1⟩ := h_bank9 hI
  obtain ⟨ac, xc, hpf⟩ := k1.pf hI.1.2 (av := [.ref am, .int v0]) (na := 2) rfl rfl
  rcases (show b = 0 ∨ b = 1 by omega) with rfl | rfl
  · have hc := r_alone0 hA (z_JQ_c base jm)
    have h := h_opC (av := [.ref am, .int v0]) hc hI.2.2.2 ⟨h_tvr hI.1.2 hI.2.2.1.tag, h_tint _ _ _, trivial⟩ (hpf [] _ rfl) (by decide +kernel) rfl rfl rfl rfl hI hT
    exact h
  · have hc := r_alone1 hA (z_JQ_c base jm)
    have h := h_opC (av := [.ref am, .int v0]) hc hI.2.2.2 ⟨h_tvr hI.1.2 hI.2.2.1.tag, h_tint _ _ _, trivial⟩ (hpf [] _ rfl) (by decide +kernel) rfl rfl rfl rfl hI hT
    exact h
theorem o_m_crowd (hA : z_A0 l base D sa) (hI : h_I jx ax jm am ws ts) (hT : h_T2 jx jm Tx Tm ws) (v0 : Int32) : h_Op l base D sa 71 [.ref am, .int v0] ws ts (h_pI jx ax jm am Tx Tm) := by
  obtain ⟨b, N, hb, k1⟩ := h_bank9 hI
  obtain ⟨ac, xc, hpf⟩ := k1.pf hI.1.2 (av := [.ref am, .int v0]) (na := 2) rfl rfl
  rcases (show b = 0 ∨ b = 1 by omega) with rfl | rfl
  · have hc := r_crowd0 hA (z_JQ_c base jm)
    have h := h_opC (av := [.ref am, .int v0]) hc hI.2.2.2 ⟨h_tvr hI.1.2 hI.2.2.1.tag, h_tint _ _ _, trivial⟩ (hpf [] _ rfl) (by decide +kernel) rfl rfl rfl rfl hI hT
    exact h
  · have hc := r_crowd1 hA (z_JQ_c base jm)
    have h := h_opC (av := [.ref am, .int v0]) hc hI.2.2.2 ⟨h_tvr hI.1.2 hI.2.2.1.tag, h_tint _ _ _, trivial⟩ (hpf [] _ rfl) (by decide +kernel) rfl rfl rfl rfl hI hT
    exact h
theorem o_m_remains (hA : z_A0 l base D sa) (hI : h_I jx ax jm am ws ts) (hT : h_T2 jx jm Tx Tm ws) (v0 : Int32) (v1 : Int32) : h_Op l base D sa 51 [.ref am, .int v0, .int v1] ws ts (h_pI jx ax jm am Tx Tm) := by
  obtain ⟨b, N, hb, k1⟩ := h_bank9 hI
  obtain ⟨ac, xc, hpf⟩ := k1.pf hI.1.2 (av := [.ref am, .int v0, .int v1]) (na := 3) rfl rfl
  rcases (show b = 0 ∨ b = 1 by omega) with rfl | rfl
  · have hc := r_remains0 hA (z_JQ_c base jm)
    have h := h_opC (av := [.ref am, .int v0, .int v1]) hc hI.2.2.2 ⟨h_tvr hI.1.2 hI.2.2.1.tag, h_tint _ _ _, h_tint _ _ _, trivial⟩ (hpf [] _ rfl) (by decide +kernel) rfl rfl rfl rfl hI hT
    exact h
  · have hc := r_remains1 hA (z_JQ_c base jm)
    have h := h_opC (av := [.ref am, .int v0, .int v1]) hc hI.2.2.2 ⟨h_tvr hI.1.2 hI.2.2.1.tag, h_tint _ _ _, h_tint _ _ _, trivial⟩ (hpf [] _ rfl) (by decide +kernel) rfl rfl rfl rfl hI hT
    exact h
theorem o_m_cover (hA : z_A0 l base D sa) (hI : h_I jx ax jm am ws ts) (hT : h_T2 jx jm Tx Tm ws) (v0 : Int32) (v1 : Int32) : h_Op l base D sa 76 [.ref am, .int v0, .int v1] ws ts (h_pI jx ax jm am Tx Tm) := by
  obtain ⟨b, N, hb, k1⟩ := h_bank9 hI
  obtain ⟨ac, xc, hpf⟩ := k1.pf hI.1.2 (av := [.ref am, .int v0, .int v1]) (na := 3) rfl rfl
  rcases (show b = 0 ∨ b = 1 by omega) with rfl | rfl
  · have hc := r_cover0 hA (z_JQ_c base jm)
    have h := h_opC (av := [.ref am, .int v0, .int v1]) hc hI.2.2.2 ⟨h_tvr hI.1.2 hI.2.2.1.tag, h_tint _ _ _, h_tint _ _ _, trivial⟩ (hpf [] _ rfl) (by decide +kernel) rfl rfl rfl rfl hI hT
    exact h
  · have hc := r_cover1 hA (z_JQ_c base jm)
    have h := h_opC (av := [.ref am, .int v0, .int v1]) hc hI.2.2.2 ⟨h_tvr hI.1.2 hI.2.2.1.tag, h_tint _ _ _, h_tint _ _ _, trivial⟩ (hpf [] _ rfl) (by decide +kernel) rfl rfl rfl rfl hI hT
    exact h
theorem o_m_orders (hA : z_A0 l base D sa) (hI : h_I jx ax jm am ws ts) (hT : h_T2 jx jm Tx Tm ws)  : h_Op l base D sa 183 [.ref am] ws ts (h_pI jx ax jm am Tx Tm) := by
  obtain ⟨b, N, hb, k1⟩ := h_bank9 hI
  obtain ⟨ac, xc, hpf⟩ := k1.pf hI.1.2 (av := [.ref am]) (na := 1) rfl rfl
  rcases (show b = 0 ∨ b = 1 by omega) with rfl | rfl
  · have hc := r_orders0 hA (z_JQ_c base jm)
    have h := h_opC (av := [.ref am]) hc hI.2.2.2 ⟨h_tvr hI.1.2 hI.2.2.1.tag, trivial⟩ (hpf [] _ rfl) (by decide +kernel) rfl rfl rfl rfl hI hT
    exact h
  · have hc := r_orders1 hA (z_JQ_c base jm)
    have h := h_opC (av := [.ref am]) hc hI.2.2.2 ⟨h_tvr hI.1.2 hI.2.2.1.tag, trivial⟩ (hpf [] _ rfl) (by decide +kernel) rfl rfl rfl rfl hI hT
    exact h
theorem o_m_may (hA : z_A0 l base D sa) (hI : h_I jx ax jm am ws ts) (hT : h_T2 jx jm Tx Tm ws) (v0 : Int32) : h_Op l base D sa 97 [.ref am, .int v0] ws ts (h_pI jx ax jm am Tx Tm) := by
  obtain ⟨b, N, hb, k1⟩ := h_bank9 hI
  obtain ⟨ac, xc, hpf⟩ := k1.pf hI.1.2 (av := [.ref am, .int v0]) (na := 2) rfl rfl
  rcases (show b = 0 ∨ b = 1 by omega) with rfl | rfl
  · have hc := r_may0 hA (z_JQ_c base jm)
    have h := h_opC (av := [.ref am, .int v0]) hc hI.2.2.2 ⟨h_tvr hI.1.2 hI.2.2.1.tag, h_tint _ _ _, trivial⟩ (hpf [] _ rfl) (by decide +kernel) rfl rfl rfl rfl hI hT
    exact h
  · have hc := r_may1 hA (z_JQ_c base jm)
    have h := h_opC (av := [.ref am, .int v0]) hc hI.2.2.2 ⟨h_tvr hI.1.2 hI.2.2.1.tag, h_tint _ _ _, trivial⟩ (hpf [] _ rfl) (by decide +kernel) rfl rfl rfl rfl hI hT
    exact h
theorem o_m_matched (hA : z_A0 l base D sa) (hI : h_I jx ax jm am ws ts) (hT : h_T2 jx jm Tx Tm ws) (v0 : Int32) (v1 : Int32) (v2 : Int32) (v3 : Int32) : h_Op l base D sa 74 [.ref am, .int v0, .int v1, .int v2, .int v3] ws ts (h_pI jx ax jm am Tx Tm) := by
  obtain ⟨b, N, hb, k1⟩ := h_bank9 hI
  obtain ⟨ac, xc, hpf⟩ := k1.pf hI.1.2 (av := [.ref am, .int v0, .int v1, .int v2, .int v3]) (na := 5) rfl rfl
  rcases (show b = 0 ∨ b = 1 by omega) with rfl | rfl
  · have hc := r_matched0 hA (z_JQ_c base jm)
    have h := h_opC (av := [.ref am, .int v0, .int v1, .int v2, .int v3]) hc hI.2.2.2 ⟨h_tvr hI.1.2 hI.2.2.1.tag, h_tint _ _ _, h_tint _ _ _, h_tint _ _ _, h_tint _ _ _, trivial⟩ (hpf [] _ rfl) (by decide +kernel) rfl rfl rfl rfl hI hT
    exact h
  · have hc := r_matched1 hA (z_JQ_c base jm)
    have h := h_opC (av := [.ref am, .int v0, .int v1, .int v2, .int v3]) hc hI.2.2.2 ⟨h_tvr hI.1.2 hI.2.2.1.tag, h_tint _ _ _, h_tint _ _ _, h_tint _ _ _, h_tint _ _ _, trivial⟩ (hpf [] _ rfl) (by decide +kernel) rfl rfl rfl rfl hI hT
    exact h
theorem o_m_catches (hA : z_A0 l base D sa) (hI : h_I jx ax jm am ws ts) (hT : h_T2 jx jm Tx Tm ws) (v0 : Int32) (v1 : Int32) : h_Op l base D sa 135 [.ref am, .int v0, .int v1] ws ts (h_pI jx ax jm am Tx Tm) := by
  obtain ⟨b, N, hb, k1⟩ := h_bank9 hI
  obtain ⟨ac, xc, hpf⟩ := k1.pf hI.1.2 (av := [.ref am, .int v0, .int v1]) (na := 3) rfl rfl
  rcases (show b = 0 ∨ b = 1 by omega) with rfl | rfl
  · have hc := r_catches0 hA (z_JQ_c base jm)
    have h := h_opC (av := [.ref am, .int v0, .int v1]) hc hI.2.2.2 ⟨h_tvr hI.1.2 hI.2.2.1.tag, h_tint _ _ _, h_tint _ _ _, trivial⟩ (hpf [] _ rfl) (by decide +kernel) rfl rfl rfl rfl hI hT
    exact h
  · have hc := r_catches1 hA (z_JQ_c base jm)
    have h := h_opC (av := [.ref am, .int v0, .int v1]) hc hI.2.2.2 ⟨h_tvr hI.1.2 hI.2.2.1.tag, h_tint _ _ _, h_tint _ _ _, trivial⟩ (hpf [] _ rfl) (by decide +kernel) rfl rfl rfl rfl hI hT
    exact h
theorem o_m_lasts (hA : z_A0 l base D sa) (hI : h_I jx ax jm am ws ts) (hT : h_T2 jx jm Tx Tm ws) (v0 : Int32) (v1 : Int32) : h_Op l base D sa 48 [.ref am, .int v0, .int v1] ws ts (h_pI jx ax jm am Tx Tm) := by
  obtain ⟨b, N, hb, k1⟩ := h_bank9 hI
  obtain ⟨ac, xc, hpf⟩ := k1.pf hI.1.2 (av := [.ref am, .int v0, .int v1]) (na := 3) rfl rfl
  rcases (show b = 0 ∨ b = 1 by omega) with rfl | rfl
  · have hc := r_lasts0 hA (z_JQ_c base jm)
    have h := h_opC (av := [.ref am, .int v0, .int v1]) hc hI.2.2.2 ⟨h_tvr hI.1.2 hI.2.2.1.tag, h_tint _ _ _, h_tint _ _ _, trivial⟩ (hpf [] _ rfl) (by decide +kernel) rfl rfl rfl rfl hI hT
    exact h
  · have hc := r_lasts1 hA (z_JQ_c base jm)
    have h := h_opC (av := [.ref am, .int v0, .int v1]) hc hI.2.2.2 ⟨h_tvr hI.1.2 hI.2.2.1.tag, h_tint _ _ _, h_tint _ _ _, trivial⟩ (hpf [] _ rfl) (by decide +kernel) rfl rfl rfl rfl hI hT
    exact h
theorem o_m_tides (hA : z_A0 l base D sa) (hI : h_I jx ax jm am ws ts) (hT : h_T2 jx jm Tx Tm ws) (v0 : Int32) : h_Op l base D sa 106 [.ref am, .int v0] ws ts (h_pI jx ax jm am Tx Tm) := by
  obtain ⟨b, N, hb, k1⟩ := h_bank9 hI
  obtain ⟨b9, N9, A9, U9, -, -, k3, -, -, -⟩ := id hI.2.2.1
  obtain ⟨ja, aa, a1, a2⟩ := id k3
  obtain ⟨ac, xc, hpf⟩ := k1.pf hI.1.2 (av := [.ref am, .int v0]) (na := 2) rfl rfl
  have key : ∃ x : Int32, h_pl ws ja 435 (.int x) ∧ q_qb x < 2147483648 + 1000 := by
    obtain ⟨x, x1, x2⟩ := a2 435 (Or.inr rfl)
    exact ⟨x, x1, x2⟩
  obtain ⟨x, x1, x2⟩ := key
  have fin : ∀ (M : z_M) (d : Nat), d ≤ 70 → h_kJq M.2.2.2.1 = true → M.2.2.2.1.all h_kJ1 = true → h_kIm M.2.2.2.1 = true → M.2.2.2.2.2.2.2.2 = [(5, 435, (0, 2147483648, 2147484647))] → M.2.2.2.2.2.2.1 = true → M.2.2.2.2.2.2.2.1.all (fun t => Nat.beq t.1 0) = true → z_Met l base D sa z_tt M.2.2.2.1 (d, 0) 106 [.ref am, .int v0] ws ts (z_CP M [.ref am, .int v0, .int (nI b), .ref ac, .int xc, .ref aa, .int x]) → h_Op l base D sa 106 [.ref am, .int v0] ws ts (h_pI jx ax jm am Tx Tm) := by
    intro M d hd e1 e2 e3 e4 e5 e6 hM
    obtain ⟨f1, f⟩ := q_ands e3
    obtain ⟨f2, f3⟩ := q_ands f
    refine ⟨M.2.2.2.1, d, 0, hd, by omega, z_ofW (fun tys hw hD => hM.imp2 (fun v ws' tys' ts' hw' hD' hf hcp => ?_))⟩
    refine ⟨h_cpv e5 e6 hcp, ⟨⟨z_gm hf.2.1 hI.1.1, z_gm hf.2.1 hI.1.2⟩, hI.2.1.fr f1 f2 hf, hI.2.2.1.fr5 e1 hf (fun j2 a3 hx2 => ?_), hI.2.2.2.fr e2 hf⟩, hT.fr f3 hf hI⟩
    obtain ⟨rfl, rfl⟩ := a1.uniq hD hx2
    obtain ⟨v, v1, -, v2⟩ := h_lane hD' hf a1 (i := 5) (q := 435) rfl (hcp.2 (5, 435, (0, 2147483648, 2147484647)) (by rw [e4]; exact List.mem_singleton.mpr rfl))
    exact ⟨v, v1, by omega⟩
  have mk : ∀ (M : z_M), z_Con l base D sa z_tt (h_Jc jm) M → M.2.2.1 = h_bf 2 b ++ [(0, 41, (1, 66, 0)), (5, 435, (0, 2147483648, 2147484647))] → M.2.1 = [(1, 40, 0), (0, 0, 4294967295)] → z_Met l base D sa z_tt M.2.2.2.1 (M.2.2.2.2.2.1, M.2.2.2.2.1) M.1 [.ref am, .int v0] ws ts (z_CP M [.ref am, .int v0, .int (nI b), .ref ac, .int xc, .ref aa, .int x]) := by
    intro M hcon e1 e2
    refine z_ofW (fun tys hw hD => ?_)
    have t435 : 2147483648 ≤ q_qb x := by
      obtain ⟨fs, o1, o2, o3⟩ := h_obj hw hI.1.2 hI.2.2.1.tag rfl
      obtain ⟨cA, fa, ra⟩ := a1.see hw o1 rfl
      have ra : h_row ws ts fs 41 66 438 ja aa cA fa := ra
      rw [ra.at (by decide) x1]
      exact h_a435 hw ra.2.1 ra.2.2
    exact hcon ws ts [.ref am, .int v0] _ (by rw [e2]; exact ⟨h_tvr hI.1.2 hI.2.2.1.tag, h_tint _ _ _, trivial⟩) (by rw [e1]; exact hpf _ _ (a1.1.pf hI.1.2 rfl (h_tvr a1.2.1 a1.2.2) (x1.pf a1.2.1 rfl (Or.inl ⟨rfl, x, rfl, t435, (by show q_qb x ≤ 2147484647; omega)⟩) rfl))) hI.2.2.2
  rcases (show b = 0 ∨ b = 1 by omega) with rfl | rfl
  · have hm := mk h_Mtid0 (r_tides0 hA (z_JQ_c base jm)) rfl rfl
    exact fin h_Mtid0 5 (by decide) (by decide +kernel) (by decide +kernel) (by decide +kernel) rfl rfl rfl hm
  · have hm := mk h_Mtid1 (r_tides1 hA (z_JQ_c base jm)) rfl rfl
    exact fin h_Mtid1 5 (by decide) (by decide +kernel) (by decide +kernel) (by decide +kernel) rfl rfl rfl hm
theorem o_m_boldest (hA : z_A0 l base D sa) (hI : h_I jx ax jm am ws ts) (hT : h_T2 jx jm Tx Tm ws)  : h_Op l base D sa 185 [.ref am] ws ts (h_pI jx ax jm am Tx Tm) := by
  obtain ⟨b, N, hb, k1⟩ := h_bank9 hI
  obtain ⟨ac, xc, hpf⟩ := k1.pf hI.1.2 (av := [.ref am]) (na := 1) rfl rfl
  rcases (show b = 0 ∨ b = 1 by omega) with rfl | rfl
  · have hc := r_boldest0 hA (z_JQ_c base jm)
    have h := h_opC (av := [.ref am]) hc hI.2.2.2 ⟨h_tvr hI.1.2 hI.2.2.1.tag, trivial⟩ (hpf [] _ rfl) (by decide +kernel) rfl rfl rfl rfl hI hT
    exact h
  · have hc := r_boldest1 hA (z_JQ_c base jm)
    have h := h_opC (av := [.ref am]) hc hI.2.2.2 ⟨h_tvr hI.1.2 hI.2.2.1.tag, trivial⟩ (hpf [] _ rfl) (by decide +kernel) rfl rfl rfl rfl hI hT
    exact h
theorem o_m_lies (hA : z_A0 l base D sa) (hI : h_I jx ax jm am ws ts) (hT : h_T2 jx jm Tx Tm ws) (v0 : Int32) : h_Op l base D sa 136 [.ref am, .int v0] ws ts (h_pI jx ax jm am Tx Tm) := by
  obtain ⟨b, N, hb, k1⟩ := h_bank9 hI
  obtain ⟨ac, xc, hpf⟩ := k1.pf hI.1.2 (av := [.ref am, .int v0]) (na := 2) rfl rfl
  rcases (show b = 0 ∨ b = 1 by omega) with rfl | rfl
  · have hc := r_lies0 hA (z_JQ_c base jm)
    have h := h_opC (av := [.ref am, .int v0]) hc hI.2.2.2 ⟨h_tvr hI.1.2 hI.2.2.1.tag, h_tint _ _ _, trivial⟩ (hpf [] _ rfl) (by decide +kernel) rfl rfl rfl rfl hI hT
    exact h
  · have hc := r_lies1 hA (z_JQ_c base jm)
    have h := h_opC (av := [.ref am, .int v0]) hc hI.2.2.2 ⟨h_tvr hI.1.2 hI.2.2.1.tag, h_tint _ _ _, trivial⟩ (hpf [] _ rfl) (by decide +kernel) rfl rfl rfl rfl hI hT
    exact h
theorem o_m_seen (hA : z_A0 l base D sa) (hI : h_I jx ax jm am ws ts) (hT : h_T2 jx jm Tx Tm ws) (v0 : Int32) (v1 : Int32) (bv : Nat) (hbv : bv < 2) : h_Op l base D sa 31 [.ref am, .int v0, .int v1, .int (nI bv)] ws ts (h_pI jx ax jm am Tx Tm) := by
  obtain ⟨b, N, hb, k1⟩ := h_bank9 hI
  obtain ⟨ac, xc, hpf⟩ := k1.pf hI.1.2 (av := [.ref am, .int v0, .int v1, .int (nI bv)]) (na := 4) rfl rfl
  rcases (show b = 0 ∨ b = 1 by omega) with rfl | rfl
  · have hc := r_seen0 hA (z_JQ_c base jm)
    have h := h_opC (av := [.ref am, .int v0, .int v1, .int (nI bv)]) hc hI.2.2.2 ⟨h_tvr hI.1.2 hI.2.2.1.tag, h_tint _ _ _, h_tint _ _ _, h_tvn (by omega) (by omega) (by omega), trivial⟩ (hpf [] _ rfl) (by decide +kernel) rfl rfl rfl rfl hI hT
    exact h
  · have hc := r_seen1 hA (z_JQ_c base jm)
    have h := h_opC (av := [.ref am, .int v0, .int v1, .int (nI bv)]) hc hI.2.2.2 ⟨h_tvr hI.1.2 hI.2.2.1.tag, h_tint _ _ _, h_tint _ _ _, h_tvn (by omega) (by omega) (by omega), trivial⟩ (hpf [] _ rfl) (by decide +kernel) rfl rfl rfl rfl hI hT
    exact h
theorem o_m_inRow (hA : z_A0 l base D sa) (hI : h_I jx ax jm am ws ts) (hT : h_T2 jx jm Tx Tm ws) (v0 : Int32) (v1 : Int32) (bv : Nat) (hbv : bv < 2) : h_Op l base D sa 32 [.ref am, .int v0, .int v1, .int (nI bv)] ws ts (h_pI jx ax jm am Tx Tm) := by
  obtain ⟨b, N, hb, k1⟩ := h_bank9 hI
  obtain ⟨ac, xc, hpf⟩ := k1.pf hI.1.2 (av := [.ref am, .int v0, .int v1, .int (nI bv)]) (na := 4) rfl rfl
  rcases (show b = 0 ∨ b = 1 by omega) with rfl | rfl
  · have hc := r_inRow0 hA (z_JQ_c base jm)
    have h := h_opC (av := [.ref am, .int v0, .int v1, .int (nI bv)]) hc hI.2.2.2 ⟨h_tvr hI.1.2 hI.2.2.1.tag, h_tint _ _ _, h_tint _ _ _, h_tvn (by omega) (by omega) (by omega), trivial⟩ (hpf [] _ rfl) (by decide +kernel) rfl rfl rfl rfl hI hT
    exact h
  · have hc := r_inRow1 hA (z_JQ_c base jm)
    have h := h_opC (av := [.ref am, .int v0, .int v1, .int (nI bv)]) hc hI.2.2.2 ⟨h_tvr hI.1.2 hI.2.2.1.tag, h_tint _ _ _, h_tint _ _ _, h_tvn (by omega) (by omega) (by omega), trivial⟩ (hpf [] _ rfl) (by decide +kernel) rfl rfl rfl rfl hI hT
    exact h
theorem o_m_untell (hA : z_A0 l base D sa) (hI : h_I jx ax jm am ws ts) (hT : h_T2 jx jm Tx Tm ws) (v0 : Int32) : h_Op l base D sa 137 [.ref am, .int v0] ws ts (h_pI jx ax jm am Tx Tm) := by
  obtain ⟨b, N, hb, k1⟩ := h_bank9 hI
  obtain ⟨ac, xc, hpf⟩ := k1.pf hI.1.2 (av := [.ref am, .int v0]) (na := 2) rfl rfl
  rcases (show b = 0 ∨ b = 1 by omega) with rfl | rfl
  · have hc := r_untell0 hA (z_JQ_c base jm)
    have h := h_opC (av := [.ref am, .int v0]) hc hI.2.2.2 ⟨h_tvr hI.1.2 hI.2.2.1.tag, h_tint _ _ _, trivial⟩ (hpf [] _ rfl) (by decide +kernel) rfl rfl rfl rfl hI hT
    exact h
  · have hc := r_untell1 hA (z_JQ_c base jm)
    have h := h_opC (av := [.ref am, .int v0]) hc hI.2.2.2 ⟨h_tvr hI.1.2 hI.2.2.1.tag, h_tint _ _ _, trivial⟩ (hpf [] _ rfl) (by decide +kernel) rfl rfl rfl rfl hI hT
    exact h
theorem o_m_paths (hA : z_A0 l base D sa) (hI : h_I jx ax jm am ws ts) (hT : h_T2 jx jm Tx Tm ws) (v0 : Int32) : h_Op l base D sa 187 [.ref am, .int v0] ws ts (h_pI jx ax jm am Tx Tm) := by
  obtain ⟨b, N, hb, k1⟩ := h_bank9 hI
  obtain ⟨ac, xc, hpf⟩ := k1.pf hI.1.2 (av := [.ref am, .int v0]) (na := 2) rfl rfl
  rcases (show b = 0 ∨ b = 1 by omega) with rfl | rfl
  · have hc := r_paths0 hA (z_JQ_c base jm)
    have h := h_opC (av := [.ref am, .int v0]) hc hI.2.2.2 ⟨h_tvr hI.1.2 hI.2.2.1.tag, h_tint _ _ _, trivial⟩ (hpf [] _ rfl) (by decide +kernel) rfl rfl rfl rfl hI hT
    exact h
  · have hc := r_paths1 hA (z_JQ_c base jm)
    have h := h_opC (av := [.ref am, .int v0]) hc hI.2.2.2 ⟨h_tvr hI.1.2 hI.2.2.1.tag, h_tint _ _ _, trivial⟩ (hpf [] _ rfl) (by decide +kernel) rfl rfl rfl rfl hI hT
    exact h
theorem o_m_sure (hA : z_A0 l base D sa) (hI : h_I jx ax jm am ws ts) (hT : h_T2 jx jm Tx Tm ws) (v0 : Int32) (v1 : Int32) : h_Op l base D sa 190 [.ref am, .int v0, .int v1] ws ts (h_pI jx ax jm am Tx Tm) := by
  obtain ⟨b, N, hb, k1⟩ := h_bank9 hI
  obtain ⟨ac, xc, hpf⟩ := k1.pf hI.1.2 (av := [.ref am, .int v0, .int v1]) (na := 3) rfl rfl
  rcases (show b = 0 ∨ b = 1 by omega) with rfl | rfl
  · have hc := r_sure0 hA (z_JQ_c base jm)
    have h := h_opC (av := [.ref am, .int v0, .int v1]) hc hI.2.2.2 ⟨h_tvr hI.1.2 hI.2.2.1.tag, h_tint _ _ _, h_tint _ _ _, trivial⟩ (hpf [] _ rfl) (by decide +kernel) rfl rfl rfl rfl hI hT
    exact h
  · have hc := r_sure1 hA (z_JQ_c base jm)
    have h := h_opC (av := [.ref am, .int v0, .int v1]) hc hI.2.2.2 ⟨h_tvr hI.1.2 hI.2.2.1.tag, h_tint _ _ _, h_tint _ _ _, trivial⟩ (hpf [] _ rfl) (by decide +kernel) rfl rfl rfl rfl hI hT
    exact h
theorem o_m_ask (hA : z_A0 l base D sa) (hI : h_I jx ax jm am ws ts) (hT : h_T2 jx jm Tx Tm ws) (v0 : Int32) (v1 : Int32) : h_Op l base D sa 141 [.ref am, .int v0, .int v1] ws ts (h_pI jx ax jm am Tx Tm) := by
  obtain ⟨b, N, hb, k1⟩ := h_bank9 hI
  obtain ⟨ac, xc, hpf⟩ := k1.pf hI.1.2 (av := [.ref am, .int v0, .int v1]) (na := 3) rfl rfl
  rcases (show b = 0 ∨ b = 1 by omega) with rfl | rfl
  · have hc := r_ask0 hA (z_JQ_c base jm)
    have h := h_opC (av := [.ref am, .int v0, .int v1]) hc hI.2.2.2 ⟨h_tvr hI.1.2 hI.2.2.1.tag, h_tint _ _ _, h_tint _ _ _, trivial⟩ (hpf [] _ rfl) (by decide +kernel) rfl rfl rfl rfl hI hT
    exact h
  · have hc := r_ask1 hA (z_JQ_c base jm)
    have h := h_opC (av := [.ref am, .int v0, .int v1]) hc hI.2.2.2 ⟨h_tvr hI.1.2 hI.2.2.1.tag, h_tint _ _ _, h_tint _ _ _, trivial⟩ (hpf [] _ rfl) (by decide +kernel) rfl rfl rfl rfl hI hT
    exact h
theorem o_m_image (hA : z_A0 l base D sa) (hI : h_I jx ax jm am ws ts) (hT : h_T2 jx jm Tx Tm ws) (v0 : Int32) : h_Op l base D sa 68 [.ref am, .int v0] ws ts (h_pI jx ax jm am Tx Tm) := h_opM (h_m_image hA.2.1 hA.1 hI.1.2 hI.2.2.1 v0) (by decide +kernel) (by decide +kernel) (by decide) (by decide) hI hT
theorem o_m_back (hA : z_A0 l base D sa) (hI : h_I jx ax jm am ws ts) (hT : h_T2 jx jm Tx Tm ws) (v0 : Int32) : h_Op l base D sa 69 [.ref am, .int v0] ws ts (h_pI jx ax jm am Tx Tm) := h_opM (h_m_back hA.2.1 hA.1 hI.1.2 hI.2.2.1 v0) (by decide +kernel) (by decide +kernel) (by decide) (by decide) hI hT
theorem o_m_about (hA : z_A0 l base D sa) (hI : h_I jx ax jm am ws ts) (hT : h_T2 jx jm Tx Tm ws) (v0 : Int32) : h_Op l base D sa 43 [.ref am, .int v0] ws ts (h_pI jx ax jm am Tx Tm) := by
  obtain ⟨b, N, hb, k1⟩ := h_bank9 hI
  obtain ⟨ac, xc, hpf⟩ := k1.pf hI.1.2 (av := [.ref am, .int v0]) (na := 2) rfl rfl
  rcases (show b = 0 ∨ b = 1 by omega) with rfl | rfl
  · have hc := r_about0 hA (z_JQ_c base jm)
    have h := h_opC (av := [.ref am, .int v0]) hc hI.2.2.2 ⟨h_tvr hI.1.2 hI.2.2.1.tag, h_tint _ _ _, trivial⟩ (hpf [] _ rfl) (by decide +kernel) rfl rfl rfl rfl hI hT
    exact h
  · have hc := r_about1 hA (z_JQ_c base jm)
    have h := h_opC (av := [.ref am, .int v0]) hc hI.2.2.2 ⟨h_tvr hI.1.2 hI.2.2.1.tag, h_tint _ _ _, trivial⟩ (hpf [] _ rfl) (by decide +kernel) rfl rfl rfl rfl hI hT
    exact h
end HO
