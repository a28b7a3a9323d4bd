/-! ===== guard: no flood leaves anything out ===== -/
theorem z_ck0 : z_ck 0 = true := by decide +kernel
theorem z_ck1 : z_ck 1 = true := by decide +kernel
theorem z_ck2 : z_ck 2 = true := by decide +kernel
theorem z_ck3 : z_ck 3 = true := by decide +kernel
theorem z_ck4 : z_ck 4 = true := by decide +kernel
theorem z_ck5 : z_ck 5 = true := by decide +kernel
theorem z_ck6 : z_ck 6 = true := by decide +kernel
theorem z_ck7 : z_ck 7 = true := by decide +kernel
theorem z_ck8 : z_ck 8 = true := by decide +kernel
theorem z_ck9 : z_ck 9 = true := by decide +kernel
theorem z_ck10 : z_ck 10 = true := by decide +kernel
theorem z_ck11 : z_ck 11 = true := by decide +kernel
theorem z_ck12 : z_ck 12 = true := by decide +kernel
theorem z_ck13 : z_ck 13 = true := by decide +kernel
theorem z_ck14 : z_ck 14 = true := by decide +kernel
theorem z_ck15 : z_ck 15 = true := by decide +kernel
theorem z_cka : ∀ b, b < 16 → z_ck b = true := (lt_s (i := 15) (lt_s (i := 14) (lt_s (i := 13) (lt_s (i := 12) (lt_s (i := 11) (lt_s (i := 10) (lt_s (i := 9) (lt_s (i := 8) (lt_s (i := 7) (lt_s (i := 6) (lt_s (i := 5) (lt_s (i := 4) (lt_s (i := 3) (lt_s (i := 2) (lt_s (i := 1) (lt_s (i := 0) lt_0 z_ck0) z_ck1) z_ck2) z_ck3) z_ck4) z_ck5) z_ck6) z_ck7) z_ck8) z_ck9) z_ck10) z_ck11) z_ck12) z_ck13) z_ck14) z_ck15)
