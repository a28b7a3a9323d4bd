/-! ===== call by call: both answer alike on the fresh objects ===== -/
theorem q_op_of0 {mem : q_M} {i1 i2 : Nat} {ps : List (List q_Bx)} (xs : Nat → Int32) (hn : ps.length ≤ 5) (hc : ps.all (fun p => q_cov p 0) = true) (hg : q_grd (q_bxt mem i1 i2 []) ps [] = true) : q_Op mem i1 i2 xs (q_xa xs ps.length 1) := by
  have := q_op_of (ext := []) (ev := []) xs hn trivial (fun _ h => by cases h) hc hg
  rw [List.append_nil] at this
  exact this
def q_mm : q_M := []
theorem q_mm_ok (l : Launch) (base : Nat) (D : va_G) (env : Nat → Int32) : ∀ e ∈ q_mm, q_Met l base D env 5 e.1 e.2.1 e.2.2.1 e.2.2.2.1 e.2.2.2.2 := sorry
theorem q_op_feed (xs : Nat → Int32) : q_Op [] 149 150 xs (q_xa xs 5 1) := sorry
theorem q_op_end (xs : Nat → Int32) : q_Op [] 64 82 xs (q_xa xs 1 1) := sorry
theorem q_op_beach (xs : Nat → Int32) : q_Op [] 151 158 xs (q_xa xs 0 1) := sorry
theorem q_op_fault (xs : Nat → Int32) : q_Op [] 60 70 xs (q_xa xs 1 1) := sorry
theorem q_op_walker (xs : Nat → Int32) : q_Op [] 83 117 xs (q_xa xs 2 1) := sorry
theorem q_op_sand (xs : Nat → Int32) : q_Op [] 15 17 xs (q_xa xs 2 1) := sorry
theorem q_op_over (xs : Nat → Int32) : q_Op [] 84 118 xs (q_xa xs 2 1) := sorry
theorem q_op_met (xs : Nat → Int32) : q_Op [] 85 119 xs (q_xa xs 2 1) := sorry
theorem q_op_step (xs : Nat → Int32) : q_Op [] 86 120 xs (q_xa xs 2 1) := sorry
theorem q_op_way (xs : Nat → Int32) : q_Op [] 87 123 xs (q_xa xs 2 1) := sorry
theorem q_op_ways (xs : Nat → Int32) : q_Op [] 88 124 xs (q_xa xs 2 1) := sorry
theorem q_op_reach (xs : Nat → Int32) : q_Op [] 90 126 xs (q_xa xs 2 1) := sorry
theorem q_op_rounds (xs : Nat → Int32) : q_Op [] 92 129 xs (q_xa xs 2 1) := sorry
theorem q_op_ghost (xs : Nat → Int32) : q_Op [] 94 131 xs (q_xa xs 2 1) := sorry
theorem q_op_first (xs : Nat → Int32) : q_Op [] 95 132 xs (q_xa xs 2 1) := sorry
theorem q_op_catches (xs : Nat → Int32) : q_Op [] 98 135 xs (q_xa xs 2 1) := sorry
theorem q_op_sly (xs : Nat → Int32) : q_Op [] 89 125 xs (q_xa xs 3 1) := sorry
theorem q_op_join (xs : Nat → Int32) : q_Op [] 91 128 xs (q_xa xs 3 1) := sorry
theorem q_op_trail (xs : Nat → Int32) : q_Op [] 93 130 xs (q_xa xs 1 1) := sorry
theorem q_op_alone (xs : Nat → Int32) : q_Op [] 96 133 xs (q_xa xs 1 1) := sorry
theorem q_op_prints (xs : Nat → Int32) : q_Op [] 46 55 xs (q_xa xs 0 1) := sorry
theorem q_op_minute (xs : Nat → Int32) : q_Op [] 163 165 xs (q_xa xs 0 1) := sorry
theorem q_op_night (xs : Nat → Int32) : q_Op [] 167 169 xs (q_xa xs 0 1) := sorry
theorem q_op_undo (xs : Nat → Int32) : q_Op [] 170 171 xs (q_xa xs 0 1) := sorry
theorem q_op_redo (xs : Nat → Int32) : q_Op [] 172 173 xs (q_xa xs 0 1) := sorry
theorem q_op_parts (xs : Nat → Int32) : q_Op [] 174 177 xs (q_xa xs 0 1) := sorry
theorem q_op_orders (xs : Nat → Int32) : q_Op [] 181 183 xs (q_xa xs 0 1) := sorry
theorem q_op_boldest (xs : Nat → Int32) : q_Op [] 184 185 xs (q_xa xs 0 1) := sorry
theorem q_op_cover (xs : Nat → Int32) : q_Op [] 75 76 xs (q_xa xs 2 1) := sorry
theorem q_op_crowd (xs : Nat → Int32) : q_Op [] 61 71 xs (q_xa xs 1 1) := sorry
theorem q_op_remains (xs : Nat → Int32) : q_Op [] 33 51 xs (q_xa xs 2 1) := sorry
theorem q_op_may (xs : Nat → Int32) : q_Op [] 52 97 xs (q_xa xs 1 1) := sorry
theorem q_op_matched (xs : Nat → Int32) : q_Op [] 73 74 xs (q_xa xs 4 1) := sorry
theorem q_op_lasts (xs : Nat → Int32) : q_Op [] 30 48 xs (q_xa xs 2 1) := sorry
theorem q_op_tides (xs : Nat → Int32) : q_Op [] 105 106 xs (q_xa xs 1 1) := sorry
theorem q_op_lies (xs : Nat → Int32) : q_Op [] 99 136 xs (q_xa xs 1 1) := sorry
theorem q_op_seen0 (xs : Nat → Int32) : q_Op [] 27 31 xs (q_xa xs 2 1 ++ [.int (nI 0)]) := sorry
theorem q_op_seen1 (xs : Nat → Int32) : q_Op [] 27 31 xs (q_xa xs 2 1 ++ [.int (nI 1)]) := sorry
theorem q_op_inRow0 (xs : Nat → Int32) : q_Op [] 28 32 xs (q_xa xs 2 1 ++ [.int (nI 0)]) := sorry
theorem q_op_inRow1 (xs : Nat → Int32) : q_Op [] 28 32 xs (q_xa xs 2 1 ++ [.int (nI 1)]) := sorry
theorem q_op_untell (xs : Nat → Int32) : q_Op [] 100 137 xs (q_xa xs 1 1) := sorry
theorem q_op_later (xs : Nat → Int32) : q_Op [] 103 104 xs (q_xa xs 1 1) := sorry
theorem q_op_paths (xs : Nat → Int32) : q_Op q_mm 186 187 xs (q_xa xs 1 1) := sorry
theorem q_op_sure (xs : Nat → Int32) : q_Op q_mm 188 190 xs (q_xa xs 2 1) := sorry
theorem q_op_ask (xs : Nat → Int32) : q_Op q_mm 140 141 xs (q_xa xs 2 1) := sorry
theorem q_op_image (xs : Nat → Int32) : q_Op [] 57 68 xs (q_xa xs 1 1) := sorry
theorem q_op_back (xs : Nat → Int32) : q_Op [] 58 69 xs (q_xa xs 1 1) := sorry
theorem q_op_about (xs : Nat → Int32) : q_Op [] 40 43 xs (q_xa xs 1 1) := sorry
