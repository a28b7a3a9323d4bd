/-! ===== ways counted: each step of the tables of ways, worked out once ===== -/
theorem q_mc16 : q_is (q_run (fun _ => (0, 4294967295)) q_code [] 100000 5 21 (q_code 21) (q_code 21) (q_pk [4294967376, 0]) [] q_g17) q_g18 [] = true := by decide +kernel
theorem q_mc17 : q_is (q_run (fun _ => (0, 4294967295)) q_code [] 100000 5 21 (q_code 21) (q_code 21) (q_pk [4294967376, 0]) [] q_g19) q_g20 [] = true := by decide +kernel
theorem q_mc18 : q_is (q_run (fun _ => (0, 4294967295)) q_code [] 100000 5 21 (q_code 21) (q_code 21) (q_pk [4294967376, 0]) [] q_g21) q_g22 [] = true := by decide +kernel
theorem q_mc19 : q_is (q_run (fun _ => (0, 4294967295)) q_code [] 100000 5 21 (q_code 21) (q_code 21) (q_pk [4294967376, 0]) [] q_g23) q_g24 [] = true := by decide +kernel
theorem q_mc20 : q_is (q_run (fun _ => (0, 4294967295)) q_code [] 100000 5 21 (q_code 21) (q_code 21) (q_pk [4294967376, 0]) [] q_g25) q_g26 [] = true := by decide +kernel
theorem q_mc21 : q_is (q_run (fun _ => (0, 4294967295)) q_code [] 100000 5 21 (q_code 21) (q_code 21) (q_pk [4294967376, 0]) [] q_g27) q_g28 [] = true := by decide +kernel
theorem q_mc22 : q_is (q_run (fun _ => (0, 4294967295)) q_code [] 100000 5 21 (q_code 21) (q_code 21) (q_pk [4294967376, 0]) [] q_g29) q_g30 [] = true := by decide +kernel
theorem q_mc23 : q_is (q_run (fun _ => (0, 4294967295)) q_code [] 100000 5 21 (q_code 21) (q_code 21) (q_pk [4294967376, 0]) [] q_g31) q_g32 [] = true := by decide +kernel
theorem q_mc24 : q_is (q_run (fun _ => (0, 4294967295)) q_code [] 100000 5 21 (q_code 21) (q_code 21) (q_pk [4294967376, 0]) [] q_g33) q_g34 [] = true := by decide +kernel
theorem q_mc25 : q_is (q_run (fun _ => (0, 4294967295)) q_code [] 100000 5 21 (q_code 21) (q_code 21) (q_pk [4294967376, 0]) [] q_g35) q_g36 [] = true := by decide +kernel
theorem q_mc26 : q_is (q_run (fun _ => (0, 4294967295)) q_code [] 100000 5 21 (q_code 21) (q_code 21) (q_pk [4294967376, 0]) [] q_g37) q_g38 [] = true := by decide +kernel
theorem q_mc27 : q_is (q_run (fun _ => (0, 4294967295)) q_code [] 100000 5 21 (q_code 21) (q_code 21) (q_pk [4294967376, 0]) [] q_g39) q_g40 [] = true := by decide +kernel
theorem q_mc28 : q_is (q_run (fun _ => (0, 4294967295)) q_code [] 100000 5 21 (q_code 21) (q_code 21) (q_pk [4294967376, 0]) [] q_g41) q_g42 [] = true := by decide +kernel
theorem q_mc29 : q_is (q_run (fun _ => (0, 4294967295)) q_code [] 100000 5 21 (q_code 21) (q_code 21) (q_pk [4294967376, 0]) [] q_g43) q_g44 [] = true := by decide +kernel
theorem q_mc30 : q_is (q_run (fun _ => (0, 4294967295)) q_code [] 100000 5 21 (q_code 21) (q_code 21) (q_pk [4294967376, 0]) [] q_g45) q_g46 [] = true := by decide +kernel
