/-! ===== tides ===== -/
def q_bl_tides0 : List q_Bx := [(0, 2147483647), (2147483648, 2147483648), (2147483649, 2147483649), (2147483650, 2147483650), (2147483651, 2147483651), (2147483652, 2147483652), (2147483653, 2147483653), (2147483654, 2147483654), (2147483655, 2147483655), (2147483656, 2147483656), (2147483657, 2147483657), (2147483658, 2147483658), (2147483659, 2147483659)]
theorem q_gr_tides0 : q_grd (q_bxt [] 105 106 []) (q_bl_tides0 :: []) [] = true := by decide +kernel
def q_bl_tides1 : List q_Bx := [(2147483660, 2147483660), (2147483661, 2147483661), (2147483662, 2147483662), (2147483663, 2147483663), (2147483664, 2147483664)]
theorem q_gr_tides1 : q_grd (q_bxt [] 105 106 []) (q_bl_tides1 :: []) [] = true := by decide +kernel
def q_bl_tides2 : List q_Bx := [(2147483665, 2147483665), (2147483666, 2147483666), (2147483667, 2147483667), (2147483668, 2147483668)]
theorem q_gr_tides2 : q_grd (q_bxt [] 105 106 []) (q_bl_tides2 :: []) [] = true := by decide +kernel
def q_bl_tides3 : List q_Bx := [(2147483669, 2147483669), (2147483670, 2147483670), (2147483671, 2147483671)]
theorem q_gr_tides3 : q_grd (q_bxt [] 105 106 []) (q_bl_tides3 :: []) [] = true := by decide +kernel
def q_bl_tides4 : List q_Bx := [(2147483672, 2147483672), (2147483673, 2147483673), (2147483674, 2147483674)]
theorem q_gr_tides4 : q_grd (q_bxt [] 105 106 []) (q_bl_tides4 :: []) [] = true := by decide +kernel
def q_bl_tides5 : List q_Bx := [(2147483675, 2147483675), (2147483676, 2147483676)]
theorem q_gr_tides5 : q_grd (q_bxt [] 105 106 []) (q_bl_tides5 :: []) [] = true := by decide +kernel
def q_bl_tides6 : List q_Bx := [(2147483677, 2147483677), (2147483678, 2147483678)]
theorem q_gr_tides6 : q_grd (q_bxt [] 105 106 []) (q_bl_tides6 :: []) [] = true := by decide +kernel
def q_bl_tides7 : List q_Bx := [(2147483679, 2147483679), (2147483680, 2147483680)]
theorem q_gr_tides7 : q_grd (q_bxt [] 105 106 []) (q_bl_tides7 :: []) [] = true := by decide +kernel
def q_bl_tides8 : List q_Bx := [(2147483681, 2147483681), (2147483682, 2147483682)]
theorem q_gr_tides8 : q_grd (q_bxt [] 105 106 []) (q_bl_tides8 :: []) [] = true := by decide +kernel
def q_bl_tides9 : List q_Bx := [(2147483683, 2147483683), (2147483684, 2147483684)]
theorem q_gr_tides9 : q_grd (q_bxt [] 105 106 []) (q_bl_tides9 :: []) [] = true := by decide +kernel
def q_bl_tides10 : List q_Bx := [(2147483685, 2147483685), (2147483686, 2147483686)]
theorem q_gr_tides10 : q_grd (q_bxt [] 105 106 []) (q_bl_tides10 :: []) [] = true := by decide +kernel
def q_bl_tides11 : List q_Bx := [(2147483687, 2147483687)]
theorem q_gr_tides11 : q_grd (q_bxt [] 105 106 []) (q_bl_tides11 :: []) [] = true := by decide +kernel
def q_bl_tides12 : List q_Bx := [(2147483688, 2147483688)]
theorem q_gr_tides12 : q_grd (q_bxt [] 105 106 []) (q_bl_tides12 :: []) [] = true := by decide +kernel
def q_bl_tides13 : List q_Bx := [(2147483689, 2147483689)]
theorem q_gr_tides13 : q_grd (q_bxt [] 105 106 []) (q_bl_tides13 :: []) [] = true := by decide +kernel
def q_bl_tides14 : List q_Bx := [(2147483690, 2147483690)]
theorem q_gr_tides14 : q_grd (q_bxt [] 105 106 []) (q_bl_tides14 :: []) [] = true := by decide +kernel
def q_bl_tides15 : List q_Bx := [(2147483691, 2147483691)]
theorem q_gr_tides15 : q_grd (q_bxt [] 105 106 []) (q_bl_tides15 :: []) [] = true := by decide +kernel
def q_bl_tides16 : List q_Bx := [(2147483692, 2147483692)]
theorem q_gr_tides16 : q_grd (q_bxt [] 105 106 []) (q_bl_tides16 :: []) [] = true := by decide +kernel
def q_bl_tides17 : List q_Bx := [(2147483693, 2147483693)]
theorem q_gr_tides17 : q_grd (q_bxt [] 105 106 []) (q_bl_tides17 :: []) [] = true := by decide +kernel
def q_bl_tides18 : List q_Bx := [(2147483694, 2147483694)]
theorem q_gr_tides18 : q_grd (q_bxt [] 105 106 []) (q_bl_tides18 :: []) [] = true := by decide +kernel
def q_bl_tides19 : List q_Bx := [(2147483695, 2147483695)]
theorem q_gr_tides19 : q_grd (q_bxt [] 105 106 []) (q_bl_tides19 :: []) [] = true := by decide +kernel
def q_bl_tides20 : List q_Bx := [(2147483696, 2147483696)]
theorem q_gr_tides20 : q_grd (q_bxt [] 105 106 []) (q_bl_tides20 :: []) [] = true := by decide +kernel
def q_bl_tides21 : List q_Bx := [(2147483697, 2147483697)]
theorem q_gr_tides21 : q_grd (q_bxt [] 105 106 []) (q_bl_tides21 :: []) [] = true := by decide +kernel
def q_bl_tides22 : List q_Bx := [(2147483698, 2147483698)]
theorem q_gr_tides22 : q_grd (q_bxt [] 105 106 []) (q_bl_tides22 :: []) [] = true := by decide +kernel
def q_bl_tides23 : List q_Bx := [(2147483699, 2147483699)]
theorem q_gr_tides23 : q_grd (q_bxt [] 105 106 []) (q_bl_tides23 :: []) [] = true := by decide +kernel
def q_bl_tides24 : List q_Bx := [(2147483700, 2147483700)]
theorem q_gr_tides24 : q_grd (q_bxt [] 105 106 []) (q_bl_tides24 :: []) [] = true := by decide +kernel
def q_bl_tides25 : List q_Bx := [(2147483701, 2147483701)]
theorem q_gr_tides25 : q_grd (q_bxt [] 105 106 []) (q_bl_tides25 :: []) [] = true := by decide +kernel
def q_bl_tides26 : List q_Bx := [(2147483702, 2147483702)]
theorem q_gr_tides26 : q_grd (q_bxt [] 105 106 []) (q_bl_tides26 :: []) [] = true := by decide +kernel
def q_bl_tides27 : List q_Bx := [(2147483703, 2147483703)]
theorem q_gr_tides27 : q_grd (q_bxt [] 105 106 []) (q_bl_tides27 :: []) [] = true := by decide +kernel
def q_bl_tides28 : List q_Bx := [(2147483704, 2147483704)]
theorem q_gr_tides28 : q_grd (q_bxt [] 105 106 []) (q_bl_tides28 :: []) [] = true := by decide +kernel
def q_bl_tides29 : List q_Bx := [(2147483705, 2147483705)]
theorem q_gr_tides29 : q_grd (q_bxt [] 105 106 []) (q_bl_tides29 :: []) [] = true := by decide +kernel
def q_bl_tides30 : List q_Bx := [(2147483706, 2147483706)]
theorem q_gr_tides30 : q_grd (q_bxt [] 105 106 []) (q_bl_tides30 :: []) [] = true := by decide +kernel
def q_bl_tides31 : List q_Bx := [(2147483707, 2147483707)]
theorem q_gr_tides31 : q_grd (q_bxt [] 105 106 []) (q_bl_tides31 :: []) [] = true := by decide +kernel
def q_bl_tides32 : List q_Bx := [(2147483708, 2147483708), (2147483709, 4294967295)]
theorem q_gr_tides32 : q_grd (q_bxt [] 105 106 []) (q_bl_tides32 :: []) [] = true := by decide +kernel
set_option maxRecDepth 100000 in
theorem q_op_tides (xs : Nat → Int32) : q_Op [] 105 106 xs (q_xa xs 1 1) := q_op_of0 (ps := (q_bl_tides0 ++ (q_bl_tides1 ++ (q_bl_tides2 ++ (q_bl_tides3 ++ (q_bl_tides4 ++ (q_bl_tides5 ++ (q_bl_tides6 ++ (q_bl_tides7 ++ (q_bl_tides8 ++ (q_bl_tides9 ++ (q_bl_tides10 ++ (q_bl_tides11 ++ (q_bl_tides12 ++ (q_bl_tides13 ++ (q_bl_tides14 ++ (q_bl_tides15 ++ (q_bl_tides16 ++ (q_bl_tides17 ++ (q_bl_tides18 ++ (q_bl_tides19 ++ (q_bl_tides20 ++ (q_bl_tides21 ++ (q_bl_tides22 ++ (q_bl_tides23 ++ (q_bl_tides24 ++ (q_bl_tides25 ++ (q_bl_tides26 ++ (q_bl_tides27 ++ (q_bl_tides28 ++ (q_bl_tides29 ++ (q_bl_tides30 ++ (q_bl_tides31 ++ q_bl_tides32)))))))))))))))))))))))))))))))) :: []) xs (by decide) (by decide +kernel) (q_grd_ap _ _ q_gr_tides0 (q_grd_ap _ _ q_gr_tides1 (q_grd_ap _ _ q_gr_tides2 (q_grd_ap _ _ q_gr_tides3 (q_grd_ap _ _ q_gr_tides4 (q_grd_ap _ _ q_gr_tides5 (q_grd_ap _ _ q_gr_tides6 (q_grd_ap _ _ q_gr_tides7 (q_grd_ap _ _ q_gr_tides8 (q_grd_ap _ _ q_gr_tides9 (q_grd_ap _ _ q_gr_tides10 (q_grd_ap _ _ q_gr_tides11 (q_grd_ap _ _ q_gr_tides12 (q_grd_ap _ _ q_gr_tides13 (q_grd_ap _ _ q_gr_tides14 (q_grd_ap _ _ q_gr_tides15 (q_grd_ap _ _ q_gr_tides16 (q_grd_ap _ _ q_gr_tides17 (q_grd_ap _ _ q_gr_tides18 (q_grd_ap _ _ q_gr_tides19 (q_grd_ap _ _ q_gr_tides20 (q_grd_ap _ _ q_gr_tides21 (q_grd_ap _ _ q_gr_tides22 (q_grd_ap _ _ q_gr_tides23 (q_grd_ap _ _ q_gr_tides24 (q_grd_ap _ _ q_gr_tides25 (q_grd_ap _ _ q_gr_tides26 (q_grd_ap _ _ q_gr_tides27 (q_grd_ap _ _ q_gr_tides28 (q_grd_ap _ _ q_gr_tides29 (q_grd_ap _ _ q_gr_tides30 (q_grd_ap _ _ q_gr_tides31 q_gr_tides32))))))))))))))))))))))))))))))))
