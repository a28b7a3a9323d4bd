/-! ===== every call keeps what holds ===== -/
section HO
variable {l : Launch} {base : Nat} {D : va_G} {sa : Nat → Nat} {ws : va_W} {ts : List Nat} {jx ax jm am Tx Tm : Nat}
theorem o_x_feed (hA : z_A0 l base D sa) (hI : h_I jx ax jm am ws ts) (hT : h_T2 jx jm Tx Tm ws) (v0 : Int32) (v1 : Int32) (v2 : Int32) (v3 : Int32) (v4 : Int32) : h_Op l base D sa 149 [.ref ax, .int v0, .int v1, .int v2, .int v3, .int v4] ws ts (h_pI jx ax jm am Tx Tm) := by
  have h := h_opC (J := fun _ _ => True) (M := z_m_c_SandNights_feed) (av := [.ref ax, .int v0, .int v1, .int v2, .int v3, .int v4]) (bv := [.ref ax, .int v0, .int v1, .int v2, .int v3, .int v4]) (r_c_SandNights_feed hA z_JK_T) trivial ⟨h_tvr hI.1.1 hI.2.1.1, h_tint _ _ _, h_tint _ _ _, h_tint _ _ _, h_tint _ _ _, h_tint _ _ _, trivial⟩ rfl (by decide +kernel) rfl rfl rfl rfl hI hT
  exact h
theorem o_x_end (hA : z_A0 l base D sa) (hI : h_I jx ax jm am ws ts) (hT : h_T2 jx jm Tx Tm ws) (v0 : Int32) : h_Op l base D sa 64 [.ref ax, .int v0] ws ts (h_pI jx ax jm am Tx Tm) := by
  have h := h_opC (J := fun _ _ => True) (M := z_m_c_SandNights_end) (av := [.ref ax, .int v0]) (bv := [.ref ax, .int v0]) (r_c_SandNights_end hA z_JK_T) trivial ⟨h_tvr hI.1.1 hI.2.1.1, h_tint _ _ _, trivial⟩ rfl (by decide +kernel) rfl rfl rfl rfl hI hT
  exact h
theorem o_x_beach (hA : z_A0 l base D sa) (hI : h_I jx ax jm am ws ts) (hT : h_T2 jx jm Tx Tm ws)  : h_Op l base D sa 151 [.ref ax] ws ts (h_pI jx ax jm am Tx Tm) := h_opX (h_xrun hA (M := z_m_y_beach) (n := 1) (by decide) rfl (z_P_y_beach hA) z_k_y_beach rfl rfl (fun v hv => by
  rcases List.mem_cons.mp hv with rfl | hv
  · rfl
  cases hv) (show 1 ≤ q_ml z_m_y_beach.1 from by decide) ⟨h_tvr hI.1.1 hI.2.1.1, trivial⟩ rfl (by decide) rfl rfl hI.2.1 hI.1.1) (by decide +kernel) (by decide) (by decide) hI hT
theorem o_x_fault (hA : z_A0 l base D sa) (hI : h_I jx ax jm am ws ts) (hT : h_T2 jx jm Tx Tm ws) (v0 : Int32) : h_Op l base D sa 60 [.ref ax, .int v0] ws ts (h_pI jx ax jm am Tx Tm) := by
  have h := h_opC (J := fun _ _ => True) (M := z_m_c_SandNights_fault) (av := [.ref ax, .int v0]) (bv := [.ref ax, .int v0]) (r_c_SandNights_fault hA z_JK_T) trivial ⟨h_tvr hI.1.1 hI.2.1.1, h_tint _ _ _, trivial⟩ rfl (by decide +kernel) rfl rfl rfl rfl hI hT
  exact h
theorem o_x_walker (hA : z_A0 l base D sa) (hI : h_I jx ax jm am ws ts) (hT : h_T2 jx jm Tx Tm ws) (v0 : Int32) (v1 : Int32) : h_Op l base D sa 83 [.ref ax, .int v0, .int v1] ws ts (h_pI jx ax jm am Tx Tm) := by
  have h := h_opC (J := fun _ _ => True) (M := z_m_c_SandNights_walker) (av := [.ref ax, .int v0, .int v1]) (bv := [.ref ax, .int v0, .int v1]) (r_c_SandNights_walker hA z_JK_T) trivial ⟨h_tvr hI.1.1 hI.2.1.1, h_tint _ _ _, h_tint _ _ _, trivial⟩ rfl (by decide +kernel) rfl rfl rfl rfl hI hT
  exact h
theorem o_x_sand (hA : z_A0 l base D sa) (hI : h_I jx ax jm am ws ts) (hT : h_T2 jx jm Tx Tm ws) (v0 : Int32) (v1 : Int32) : h_Op l base D sa 15 [.ref ax, .int v0, .int v1] ws ts (h_pI jx ax jm am Tx Tm) := by
  have h := h_opC (J := fun _ _ => True) (M := z_m_c_SandNights_sand) (av := [.ref ax, .int v0, .int v1]) (bv := [.ref ax, .int v0, .int v1]) (r_c_SandNights_sand hA z_JK_T) trivial ⟨h_tvr hI.1.1 hI.2.1.1, h_tint _ _ _, h_tint _ _ _, trivial⟩ rfl (by decide +kernel) rfl rfl rfl rfl hI hT
  exact h
theorem o_x_over (hA : z_A0 l base D sa) (hI : h_I jx ax jm am ws ts) (hT : h_T2 jx jm Tx Tm ws) (v0 : Int32) (v1 : Int32) : h_Op l base D sa 84 [.ref ax, .int v0, .int v1] ws ts (h_pI jx ax jm am Tx Tm) := by
  have h := h_opC (J := fun _ _ => True) (M := z_m_c_SandNights_over) (av := [.ref ax, .int v0, .int v1]) (bv := [.ref ax, .int v0, .int v1]) (r_c_SandNights_over hA z_JK_T) trivial ⟨h_tvr hI.1.1 hI.2.1.1, h_tint _ _ _, h_tint _ _ _, trivial⟩ rfl (by decide +kernel) rfl rfl rfl rfl hI hT
  exact h
theorem o_x_met (hA : z_A0 l base D sa) (hI : h_I jx ax jm am ws ts) (hT : h_T2 jx jm Tx Tm ws) (v0 : Int32) (v1 : Int32) : h_Op l base D sa 85 [.ref ax, .int v0, .int v1] ws ts (h_pI jx ax jm am Tx Tm) := by
  have h := h_opC (J := fun _ _ => True) (M := z_m_c_SandNights_met) (av := [.ref ax, .int v0, .int v1]) (bv := [.ref ax, .int v0, .int v1]) (r_c_SandNights_met hA z_JK_T) trivial ⟨h_tvr hI.1.1 hI.2.1.1, h_tint _ _ _, h_tint _ _ _, trivial⟩ rfl (by decide +kernel) rfl rfl rfl rfl hI hT
  exact h
theorem o_x_prints (hA : z_A0 l base D sa) (hI : h_I jx ax jm am ws ts) (hT : h_T2 jx jm Tx Tm ws)  : h_Op l base D sa 46 [.ref ax] ws ts (h_pI jx ax jm am Tx Tm) := by
  have h := h_opC (J := fun _ _ => True) (M := z_m_c_SandNights_prints) (av := [.ref ax]) (bv := [.ref ax]) (r_c_SandNights_prints hA z_JK_T) trivial ⟨h_tvr hI.1.1 hI.2.1.1, trivial⟩ rfl (by decide +kernel) rfl rfl rfl rfl hI hT
  exact h
theorem o_x_step (hA : z_A0 l base D sa) (hI : h_I jx ax jm am ws ts) (hT : h_T2 jx jm Tx Tm ws) (v0 : Int32) (v1 : Int32) : h_Op l base D sa 86 [.ref ax, .int v0, .int v1] ws ts (h_pI jx ax jm am Tx Tm) := h_opX (h_xrun hA (M := z_m_y_step) (n := 3) (by decide) rfl (z_P_y_step hA) z_k_y_step rfl rfl (fun v hv => by
  rcases List.mem_cons.mp hv with rfl | hv
  · rfl
  rcases List.mem_cons.mp hv with rfl | hv
  · rfl
  rcases List.mem_cons.mp hv with rfl | hv
  · rfl
  cases hv) (show 3 ≤ q_ml z_m_y_step.1 from by decide) ⟨h_tvr hI.1.1 hI.2.1.1, h_tint _ _ _, h_tint _ _ _, trivial⟩ rfl (by decide) rfl rfl hI.2.1 hI.1.1) (by decide +kernel) (by decide) (by decide) hI hT
theorem o_x_minute (hA : z_A0 l base D sa) (hI : h_I jx ax jm am ws ts) (hT : h_T2 jx jm Tx Tm ws)  : h_Op l base D sa 163 [.ref ax] ws ts (h_pI jx ax jm am Tx Tm) := h_opX (h_xrun hA (M := z_m_y_minute) (n := 1) (by decide) rfl (z_P_y_minute hA) z_k_y_minute rfl rfl (fun v hv => by
  rcases List.mem_cons.mp hv with rfl | hv
  · rfl
  cases hv) (show 1 ≤ q_ml z_m_y_minute.1 from by decide) ⟨h_tvr hI.1.1 hI.2.1.1, trivial⟩ rfl (by decide) rfl rfl hI.2.1 hI.1.1) (by decide +kernel) (by decide) (by decide) hI hT
theorem o_x_night (hA : z_A0 l base D sa) (hI : h_I jx ax jm am ws ts) (hT : h_T2 jx jm Tx Tm ws)  : h_Op l base D sa 167 [.ref ax] ws ts (h_pI jx ax jm am Tx Tm) := h_opX (h_xrun hA (M := z_m_y_night) (n := 1) (by decide) rfl (z_P_y_night hA) z_k_y_night rfl rfl (fun v hv => by
  rcases List.mem_cons.mp hv with rfl | hv
  · rfl
  cases hv) (show 1 ≤ q_ml z_m_y_night.1 from by decide) ⟨h_tvr hI.1.1 hI.2.1.1, trivial⟩ rfl (by decide) rfl rfl hI.2.1 hI.1.1) (by decide +kernel) (by decide) (by decide) hI hT
theorem o_x_undo (hA : z_A0 l base D sa) (hI : h_I jx ax jm am ws ts) (hT : h_T2 jx jm Tx Tm ws)  : h_Op l base D sa 170 [.ref ax] ws ts (h_pI jx ax jm am Tx Tm) := h_opX (h_m_undox hA hI.1.1 hI.2.1) (by decide +kernel) (by decide) (by decide) hI hT
theorem o_x_redo (hA : z_A0 l base D sa) (hI : h_I jx ax jm am ws ts) (hT : h_T2 jx jm Tx Tm ws)  : h_Op l base D sa 172 [.ref ax] ws ts (h_pI jx ax jm am Tx Tm) := h_opX (h_m_redox hA hI.1.1 hI.2.1) (by decide +kernel) (by decide) (by decide) hI hT
theorem o_x_way (hA : z_A0 l base D sa) (hI : h_I jx ax jm am ws ts) (hT : h_T2 jx jm Tx Tm ws) (v0 : Int32) (v1 : Int32) : h_Op l base D sa 87 [.ref ax, .int v0, .int v1] ws ts (h_pI jx ax jm am Tx Tm) := by
  have h := h_opC (J := fun _ _ => True) (M := z_m_c_SandNights_way) (av := [.ref ax, .int v0, .int v1]) (bv := [.ref ax, .int v0, .int v1]) (r_c_SandNights_way hA z_JK_T) trivial ⟨h_tvr hI.1.1 hI.2.1.1, h_tint _ _ _, h_tint _ _ _, trivial⟩ rfl (by decide +kernel) rfl rfl rfl rfl hI hT
  exact h
theorem o_x_ways (hA : z_A0 l base D sa) (hI : h_I jx ax jm am ws ts) (hT : h_T2 jx jm Tx Tm ws) (v0 : Int32) (v1 : Int32) : h_Op l base D sa 88 [.ref ax, .int v0, .int v1] ws ts (h_pI jx ax jm am Tx Tm) := by
  have h := h_opC (J := fun _ _ => True) (M := z_m_c_SandNights_ways) (av := [.ref ax, .int v0, .int v1]) (bv := [.ref ax, .int v0, .int v1]) (r_c_SandNights_ways hA z_JK_T) trivial ⟨h_tvr hI.1.1 hI.2.1.1, h_tint _ _ _, h_tint _ _ _, trivial⟩ rfl (by decide +kernel) rfl rfl rfl rfl hI hT
  exact h
theorem o_x_sly (hA : z_A0 l base D sa) (hI : h_I jx ax jm am ws ts) (hT : h_T2 jx jm Tx Tm ws) (v0 : Int32) (v1 : Int32) (v2 : Int32) : h_Op l base D sa 89 [.ref ax, .int v0, .int v1, .int v2] ws ts (h_pI jx ax jm am Tx Tm) := by
  have h := h_opC (J := fun _ _ => True) (M := z_m_c_SandNights_sly) (av := [.ref ax, .int v0, .int v1, .int v2]) (bv := [.ref ax, .int v0, .int v1, .int v2]) (r_c_SandNights_sly hA z_JK_T) trivial ⟨h_tvr hI.1.1 hI.2.1.1, h_tint _ _ _, h_tint _ _ _, h_tint _ _ _, trivial⟩ rfl (by decide +kernel) rfl rfl rfl rfl hI hT
  exact h
theorem o_x_reach (hA : z_A0 l base D sa) (hI : h_I jx ax jm am ws ts) (hT : h_T2 jx jm Tx Tm ws) (v0 : Int32) (v1 : Int32) : h_Op l base D sa 90 [.ref ax, .int v0, .int v1] ws ts (h_pI jx ax jm am Tx Tm) := by
  have h := h_opC (J := fun _ _ => True) (M := z_m_c_SandNights_reach) (av := [.ref ax, .int v0, .int v1]) (bv := [.ref ax, .int v0, .int v1]) (r_c_SandNights_reach hA z_JK_T) trivial ⟨h_tvr hI.1.1 hI.2.1.1, h_tint _ _ _, h_tint _ _ _, trivial⟩ rfl (by decide +kernel) rfl rfl rfl rfl hI hT
  exact h
theorem o_x_parts (hA : z_A0 l base D sa) (hI : h_I jx ax jm am ws ts) (hT : h_T2 jx jm Tx Tm ws)  : h_Op l base D sa 174 [.ref ax] ws ts (h_pI jx ax jm am Tx Tm) := by
  have h := h_opC (J := fun _ _ => True) (M := z_m_c_SandNights_parts) (av := [.ref ax]) (bv := [.ref ax]) (r_c_SandNights_parts hA z_JK_T) trivial ⟨h_tvr hI.1.1 hI.2.1.1, trivial⟩ rfl (by decide +kernel) rfl rfl rfl rfl hI hT
  exact h
theorem o_x_join (hA : z_A0 l base D sa) (hI : h_I jx ax jm am ws ts) (hT : h_T2 jx jm Tx Tm ws) (v0 : Int32) (v1 : Int32) (v2 : Int32) : h_Op l base D sa 91 [.ref ax, .int v0, .int v1, .int v2] ws ts (h_pI jx ax jm am Tx Tm) := by
  have h := h_opC (J := fun _ _ => True) (M := z_m_c_SandNights_join) (av := [.ref ax, .int v0, .int v1, .int v2]) (bv := [.ref ax, .int v0, .int v1, .int v2]) (r_c_SandNights_join hA z_JK_T) trivial ⟨h_tvr hI.1.1 hI.2.1.1, h_tint _ _ _, h_tint _ _ _, h_tint _ _ _, trivial⟩ rfl (by decide +kernel) rfl rfl rfl rfl hI hT
  exact h
theorem o_x_rounds (hA : z_A0 l base D sa) (hI : h_I jx ax jm am ws ts) (hT : h_T2 jx jm Tx Tm ws) (v0 : Int32) (v1 : Int32) : h_Op l base D sa 92 [.ref ax, .int v0, .int v1] ws ts (h_pI jx ax jm am Tx Tm) := by
  have h := h_opC (J := fun _ _ => True) (M := z_m_c_SandNights_rounds) (av := [.ref ax, .int v0, .int v1]) (bv := [.ref ax, .int v0, .int v1]) (r_c_SandNights_rounds hA z_JK_T) trivial ⟨h_tvr hI.1.1 hI.2.1.1, h_tint _ _ _, h_tint _ _ _, trivial⟩ rfl (by decide +kernel) rfl rfl rfl rfl hI hT
  exact h
theorem o_x_guard (hA : z_A0 l base D sa) (hI : h_I jx ax jm am ws ts) (hT : h_T2 jx jm Tx Tm ws) (v0 : Int32) (v1 : Int32) (v2 : Int32) : h_Op l base D sa 66 [.ref ax, .int v0, .int v1, .int v2] ws ts (h_pI jx ax jm am Tx Tm) := by
  have h := h_opC (J := fun _ _ => True) (M := z_m_c_SandNights_guard) (av := [.ref ax, .int v0, .int v1, .int v2]) (bv := [.ref ax, .int v0, .int v1, .int v2]) (r_c_SandNights_guard hA z_JK_T) trivial ⟨h_tvr hI.1.1 hI.2.1.1, h_tint _ _ _, h_tint _ _ _, h_tint _ _ _, trivial⟩ rfl (by decide +kernel) rfl rfl rfl rfl hI hT
  exact h
theorem o_x_trail (hA : z_A0 l base D sa) (hI : h_I jx ax jm am ws ts) (hT : h_T2 jx jm Tx Tm ws) (v0 : Int32) : h_Op l base D sa 93 [.ref ax, .int v0] ws ts (h_pI jx ax jm am Tx Tm) := by
  have h := h_opC (J := fun _ _ => True) (M := z_m_c_SandNights_trail) (av := [.ref ax, .int v0]) (bv := [.ref ax, .int v0]) (r_c_SandNights_trail hA z_JK_T) trivial ⟨h_tvr hI.1.1 hI.2.1.1, h_tint _ _ _, trivial⟩ rfl (by decide +kernel) rfl rfl rfl rfl hI hT
  exact h
theorem o_x_ghost (hA : z_A0 l base D sa) (hI : h_I jx ax jm am ws ts) (hT : h_T2 jx jm Tx Tm ws) (v0 : Int32) (v1 : Int32) : h_Op l base D sa 94 [.ref ax, .int v0, .int v1] ws ts (h_pI jx ax jm am Tx Tm) := by
  have h := h_opC (J := fun _ _ => True) (M := z_m_c_SandNights_ghost) (av := [.ref ax, .int v0, .int v1]) (bv := [.ref ax, .int v0, .int v1]) (r_c_SandNights_ghost hA z_JK_T) trivial ⟨h_tvr hI.1.1 hI.2.1.1, h_tint _ _ _, h_tint _ _ _, trivial⟩ rfl (by decide +kernel) rfl rfl rfl rfl hI hT
  exact h
theorem o_x_first (hA : z_A0 l base D sa) (hI : h_I jx ax jm am ws ts) (hT : h_T2 jx jm Tx Tm ws) (v0 : Int32) (v1 : Int32) : h_Op l base D sa 95 [.ref ax, .int v0, .int v1] ws ts (h_pI jx ax jm am Tx Tm) := by
  have h := h_opC (J := fun _ _ => True) (M := z_m_c_SandNights_first) (av := [.ref ax, .int v0, .int v1]) (bv := [.ref ax, .int v0, .int v1]) (r_c_SandNights_first hA z_JK_T) trivial ⟨h_tvr hI.1.1 hI.2.1.1, h_tint _ _ _, h_tint _ _ _, trivial⟩ rfl (by decide +kernel) rfl rfl rfl rfl hI hT
  exact h
theorem o_x_alone (hA : z_A0 l base D sa) (hI : h_I jx ax jm am ws ts) (hT : h_T2 jx jm Tx Tm ws) (v0 : Int32) : h_Op l base D sa 96 [.ref ax, .int v0] ws ts (h_pI jx ax jm am Tx Tm) := by
  have h := h_opC (J := fun _ _ => True) (M := z_m_c_SandNights_alone) (av := [.ref ax, .int v0]) (bv := [.ref ax, .int v0]) (r_c_SandNights_alone hA z_JK_T) trivial ⟨h_tvr hI.1.1 hI.2.1.1, h_tint _ _ _, trivial⟩ rfl (by decide +kernel) rfl rfl rfl rfl hI hT
  exact h
theorem o_x_crowd (hA : z_A0 l base D sa) (hI : h_I jx ax jm am ws ts) (hT : h_T2 jx jm Tx Tm ws) (v0 : Int32) : h_Op l base D sa 61 [.ref ax, .int v0] ws ts (h_pI jx ax jm am Tx Tm) := by
  have h := h_opC (J := fun _ _ => True) (M := z_m_c_SandNights_crowd) (av := [.ref ax, .int v0]) (bv := [.ref ax, .int v0]) (r_c_SandNights_crowd hA z_JK_T) trivial ⟨h_tvr hI.1.1 hI.2.1.1, h_tint _ _ _, trivial⟩ rfl (by decide +kernel) rfl rfl rfl rfl hI hT
  exact h
theorem o_x_remains (hA : z_A0 l base D sa) (hI : h_I jx ax jm am ws ts) (hT : h_T2 jx jm Tx Tm ws) (v0 : Int32) (v1 : Int32) : h_Op l base D sa 33 [.ref ax, .int v0, .int v1] ws ts (h_pI jx ax jm am Tx Tm) := by
  have h := h_opC (J := fun _ _ => True) (M := z_m_c_SandNights_remains) (av := [.ref ax, .int v0, .int v1]) (bv := [.ref ax, .int v0, .int v1]) (r_c_SandNights_remains hA z_JK_T) trivial ⟨h_tvr hI.1.1 hI.2.1.1, h_tint _ _ _, h_tint _ _ _, trivial⟩ rfl (by decide +kernel) rfl rfl rfl rfl hI hT
  exact h
theorem o_x_cover (hA : z_A0 l base D sa) (hI : h_I jx ax jm am ws ts) (hT : h_T2 jx jm Tx Tm ws) (v0 : Int32) (v1 : Int32) : h_Op l base D sa 75 [.ref ax, .int v0, .int v1] ws ts (h_pI jx ax jm am Tx Tm) := by
  have h := h_opC (J := fun _ _ => True) (M := z_m_c_SandNights_cover) (av := [.ref ax, .int v0, .int v1]) (bv := [.ref ax, .int v0, .int v1]) (r_c_SandNights_cover hA z_JK_T) trivial ⟨h_tvr hI.1.1 hI.2.1.1, h_tint _ _ _, h_tint _ _ _, trivial⟩ rfl (by decide +kernel) rfl rfl rfl rfl hI hT
  exact h
theorem o_x_orders (hA : z_A0 l base D sa) (hI : h_I jx ax jm am ws ts) (hT : h_T2 jx jm Tx Tm ws)  : h_Op l base D sa 181 [.ref ax] ws ts (h_pI jx ax jm am Tx Tm) := by
  have h := h_opC (J := fun _ _ => True) (M := z_m_c_SandNights_orders) (av := [.ref ax]) (bv := [.ref ax]) (r_c_SandNights_orders hA z_JK_T) trivial ⟨h_tvr hI.1.1 hI.2.1.1, trivial⟩ rfl (by decide +kernel) rfl rfl rfl rfl hI hT
  exact h
theorem o_x_may (hA : z_A0 l base D sa) (hI : h_I jx ax jm am ws ts) (hT : h_T2 jx jm Tx Tm ws) (v0 : Int32) : h_Op l base D sa 52 [.ref ax, .int v0] ws ts (h_pI jx ax jm am Tx Tm) := by
  have h := h_opC (J := fun _ _ => True) (M := z_m_c_SandNights_may) (av := [.ref ax, .int v0]) (bv := [.ref ax, .int v0]) (r_c_SandNights_may hA z_JK_T) trivial ⟨h_tvr hI.1.1 hI.2.1.1, h_tint _ _ _, trivial⟩ rfl (by decide +kernel) rfl rfl rfl rfl hI hT
  exact h
theorem o_x_matched (hA : z_A0 l base D sa) (hI : h_I jx ax jm am ws ts) (hT : h_T2 jx jm Tx Tm ws) (v0 : Int32) (v1 : Int32) (v2 : Int32) (v3 : Int32) : h_Op l base D sa 73 [.ref ax, .int v0, .int v1, .int v2, .int v3] ws ts (h_pI jx ax jm am Tx Tm) := by
  have h := h_opC (J := fun _ _ => True) (M := z_m_c_SandNights_matched) (av := [.ref ax, .int v0, .int v1, .int v2, .int v3]) (bv := [.ref ax, .int v0, .int v1, .int v2, .int v3]) (r_c_SandNights_matched hA z_JK_T) trivial ⟨h_tvr hI.1.1 hI.2.1.1, h_tint _ _ _, h_tint _ _ _, h_tint _ _ _, h_tint _ _ _, trivial⟩ rfl (by decide +kernel) rfl rfl rfl rfl hI hT
  exact h
theorem o_x_catches (hA : z_A0 l base D sa) (hI : h_I jx ax jm am ws ts) (hT : h_T2 jx jm Tx Tm ws) (v0 : Int32) (v1 : Int32) : h_Op l base D sa 98 [.ref ax, .int v0, .int v1] ws ts (h_pI jx ax jm am Tx Tm) := by
  have h := h_opC (J := fun _ _ => True) (M := z_m_c_SandNights_catches) (av := [.ref ax, .int v0, .int v1]) (bv := [.ref ax, .int v0, .int v1]) (r_c_SandNights_catches hA z_JK_T) trivial ⟨h_tvr hI.1.1 hI.2.1.1, h_tint _ _ _, h_tint _ _ _, trivial⟩ rfl (by decide +kernel) rfl rfl rfl rfl hI hT
  exact h
theorem o_x_lasts (hA : z_A0 l base D sa) (hI : h_I jx ax jm am ws ts) (hT : h_T2 jx jm Tx Tm ws) (v0 : Int32) (v1 : Int32) : h_Op l base D sa 30 [.ref ax, .int v0, .int v1] ws ts (h_pI jx ax jm am Tx Tm) := by
  have h := h_opC (J := fun _ _ => True) (M := z_m_c_SandNights_lasts) (av := [.ref ax, .int v0, .int v1]) (bv := [.ref ax, .int v0, .int v1]) (r_c_SandNights_lasts hA z_JK_T) trivial ⟨h_tvr hI.1.1 hI.2.1.1, h_tint _ _ _, h_tint _ _ _, trivial⟩ rfl (by decide +kernel) rfl rfl rfl rfl hI hT
  exact h
theorem o_x_tides (hA : z_A0 l base D sa) (hI : h_I jx ax jm am ws ts) (hT : h_T2 jx jm Tx Tm ws) (v0 : Int32) : h_Op l base D sa 105 [.ref ax, .int v0] ws ts (h_pI jx ax jm am Tx Tm) := by
  have h := h_opC (J := fun _ _ => True) (M := z_m_c_SandNights_tides) (av := [.ref ax, .int v0]) (bv := [.ref ax, .int v0]) (r_c_SandNights_tides hA z_JK_T) trivial ⟨h_tvr hI.1.1 hI.2.1.1, h_tint _ _ _, trivial⟩ rfl (by decide +kernel) rfl rfl rfl rfl hI hT
  exact h
theorem o_x_boldest (hA : z_A0 l base D sa) (hI : h_I jx ax jm am ws ts) (hT : h_T2 jx jm Tx Tm ws)  : h_Op l base D sa 184 [.ref ax] ws ts (h_pI jx ax jm am Tx Tm) := by
  have h := h_opC (J := fun _ _ => True) (M := z_m_c_SandNights_boldest) (av := [.ref ax]) (bv := [.ref ax]) (r_c_SandNights_boldest hA z_JK_T) trivial ⟨h_tvr hI.1.1 hI.2.1.1, trivial⟩ rfl (by decide +kernel) rfl rfl rfl rfl hI hT
  exact h
theorem o_x_lies (hA : z_A0 l base D sa) (hI : h_I jx ax jm am ws ts) (hT : h_T2 jx jm Tx Tm ws) (v0 : Int32) : h_Op l base D sa 99 [.ref ax, .int v0] ws ts (h_pI jx ax jm am Tx Tm) := by
  have h := h_opC (J := fun _ _ => True) (M := z_m_c_SandNights_lies) (av := [.ref ax, .int v0]) (bv := [.ref ax, .int v0]) (r_c_SandNights_lies hA z_JK_T) trivial ⟨h_tvr hI.1.1 hI.2.1.1, h_tint _ _ _, trivial⟩ rfl (by decide +kernel) rfl rfl rfl rfl hI hT
  exact h
theorem o_x_seen (hA : z_A0 l base D sa) (hI : h_I jx ax jm am ws ts) (hT : h_T2 jx jm Tx Tm ws) (v0 : Int32) (v1 : Int32) (bv : Nat) (hbv : bv < 2) : h_Op l base D sa 27 [.ref ax, .int v0, .int v1, .int (nI bv)] ws ts (h_pI jx ax jm am Tx Tm) := by
  have h := h_opC (J := fun _ _ => True) (M := z_m_c_SandNights_seen) (av := [.ref ax, .int v0, .int v1, .int (nI bv)]) (bv := [.ref ax, .int v0, .int v1, .int (nI bv)]) (r_c_SandNights_seen hA z_JK_T) trivial ⟨h_tvr hI.1.1 hI.2.1.1, h_tint _ _ _, h_tint _ _ _, h_tvn (by omega) (by omega) (by omega), trivial⟩ rfl (by decide +kernel) rfl rfl rfl rfl hI hT
  exact h
theorem o_x_inRow (hA : z_A0 l base D sa) (hI : h_I jx ax jm am ws ts) (hT : h_T2 jx jm Tx Tm ws) (v0 : Int32) (v1 : Int32) (bv : Nat) (hbv : bv < 2) : h_Op l base D sa 28 [.ref ax, .int v0, .int v1, .int (nI bv)] ws ts (h_pI jx ax jm am Tx Tm) := by
  have h := h_opC (J := fun _ _ => True) (M := z_m_c_SandNights_inRow) (av := [.ref ax, .int v0, .int v1, .int (nI bv)]) (bv := [.ref ax, .int v0, .int v1, .int (nI bv)]) (r_c_SandNights_inRow hA z_JK_T) trivial ⟨h_tvr hI.1.1 hI.2.1.1, h_tint _ _ _, h_tint _ _ _, h_tvn (by omega) (by omega) (by omega), trivial⟩ rfl (by decide +kernel) rfl rfl rfl rfl hI hT
  exact h
theorem o_x_untell (hA : z_A0 l base D sa) (hI : h_I jx ax jm am ws ts) (hT : h_T2 jx jm Tx Tm ws) (v0 : Int32) : h_Op l base D sa 100 [.ref ax, .int v0] ws ts (h_pI jx ax jm am Tx Tm) := by
  have h := h_opC (J := fun _ _ => True) (M := z_m_c_SandNights_untell) (av := [.ref ax, .int v0]) (bv := [.ref ax, .int v0]) (r_c_SandNights_untell hA z_JK_T) trivial ⟨h_tvr hI.1.1 hI.2.1.1, h_tint _ _ _, trivial⟩ rfl (by decide +kernel) rfl rfl rfl rfl hI hT
  exact h
theorem o_x_paths (hA : z_A0 l base D sa) (hI : h_I jx ax jm am ws ts) (hT : h_T2 jx jm Tx Tm ws) (v0 : Int32) : h_Op l base D sa 186 [.ref ax, .int v0] ws ts (h_pI jx ax jm am Tx Tm) := by
  have h := h_opC (J := fun _ _ => True) (M := z_m_c_SandNights_paths) (av := [.ref ax, .int v0]) (bv := [.ref ax, .int v0]) (r_c_SandNights_paths hA z_JK_T) trivial ⟨h_tvr hI.1.1 hI.2.1.1, h_tint _ _ _, trivial⟩ rfl (by decide +kernel) rfl rfl rfl rfl hI hT
  exact h
theorem o_x_sure (hA : z_A0 l base D sa) (hI : h_I jx ax jm am ws ts) (hT : h_T2 jx jm Tx Tm ws) (v0 : Int32) (v1 : Int32) : h_Op l base D sa 188 [.ref ax, .int v0, .int v1] ws ts (h_pI jx ax jm am Tx Tm) := by
  have h := h_opC (J := fun _ _ => True) (M := z_m_c_SandNights_sure) (av := [.ref ax, .int v0, .int v1]) (bv := [.ref ax, .int v0, .int v1]) (r_c_SandNights_sure hA z_JK_T) trivial ⟨h_tvr hI.1.1 hI.2.1.1, h_tint _ _ _, h_tint _ _ _, trivial⟩ rfl (by decide +kernel) rfl rfl rfl rfl hI hT
  exact h
theorem o_x_ask (hA : z_A0 l base D sa) (hI : h_I jx ax jm am ws ts) (hT : h_T2 jx jm Tx Tm ws) (v0 : Int32) (v1 : Int32) : h_Op l base D sa 140 [.ref ax, .int v0, .int v1] ws ts (h_pI jx ax jm am Tx Tm) := by
  have h := h_opC (J := fun _ _ => True) (M := z_m_c_SandNights_ask) (av := [.ref ax, .int v0, .int v1]) (bv := [.ref ax, .int v0, .int v1]) (r_c_SandNights_ask hA z_JK_T) trivial ⟨h_tvr hI.1.1 hI.2.1.1, h_tint _ _ _, h_tint _ _ _, trivial⟩ rfl (by decide +kernel) rfl rfl rfl rfl hI hT
  exact h
theorem o_x_image (hA : z_A0 l base D sa) (hI : h_I jx ax jm am ws ts) (hT : h_T2 jx jm Tx Tm ws) (v0 : Int32) : h_Op l base D sa 57 [.ref ax, .int v0] ws ts (h_pI jx ax jm am Tx Tm) := by
  have h := h_opC (J := fun _ _ => True) (M := z_m_c_SandNights_image) (av := [.ref ax, .int v0]) (bv := [.ref ax, .int v0]) (r_c_SandNights_image hA z_JK_T) trivial ⟨h_tvr hI.1.1 hI.2.1.1, h_tint _ _ _, trivial⟩ rfl (by decide +kernel) rfl rfl rfl rfl hI hT
  exact h
theorem o_x_back (hA : z_A0 l base D sa) (hI : h_I jx ax jm am ws ts) (hT : h_T2 jx jm Tx Tm ws) (v0 : Int32) : h_Op l base D sa 58 [.ref ax, .int v0] ws ts (h_pI jx ax jm am Tx Tm) := h_opX (h_xrun hA (M := z_m_y_back) (n := 2) (by decide) rfl (z_P_y_back hA) z_k_y_back rfl rfl (fun v hv => by
  rcases List.mem_cons.mp hv with rfl | hv
  · rfl
  rcases List.mem_cons.mp hv with rfl | hv
  · rfl
  cases hv) (show 2 ≤ q_ml z_m_y_back.1 from by decide) ⟨h_tvr hI.1.1 hI.2.1.1, h_tint _ _ _, trivial⟩ rfl (by decide) rfl rfl hI.2.1 hI.1.1) (by decide +kernel) (by decide) (by decide) hI hT
theorem o_x_about (hA : z_A0 l base D sa) (hI : h_I jx ax jm am ws ts) (hT : h_T2 jx jm Tx Tm ws) (v0 : Int32) : h_Op l base D sa 40 [.ref ax, .int v0] ws ts (h_pI jx ax jm am Tx Tm) := by
  have h := h_opC (J := fun _ _ => True) (M := z_m_c_SandNights_about) (av := [.ref ax, .int v0]) (bv := [.ref ax, .int v0]) (r_c_SandNights_about hA z_JK_T) trivial ⟨h_tvr hI.1.1 hI.2.1.1, h_tint _ _ _, trivial⟩ rfl (by decide +kernel) rfl rfl rfl rfl hI hT
  exact h
end HO
