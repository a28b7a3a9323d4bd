/-! ===== the classes' fields; Object's constructor, arraycopy ===== -/
def q_pll : List Nat := [392, 394, 396, 398, 414, 416, 418, 420, 422, 207, 209, 211, 213, 307, 309, 311, 313, 315, 317, 319, 321, 323, 325, 157, 159, 161, 163, 165, 167, 169, 171, 173, 175, 177, 179, 181, 183, 185, 355, 357, 359, 361, 363, 365, 367, 369, 371, 373, 375, 439, 441, 443, 445, 447, 449, 451, 253, 255, 257, 259, 261, 263, 265, 267, 269, 271, 273, 275, 506, 508, 510, 512, 514, 516, 518, 520, 522, 524, 526, 528, 530, 1308, 1310, 1312, 1314, 1316, 1318, 1320, 1322, 1324, 1326, 1328, 1330, 1332, 1334, 1336, 1338, 1340, 1342, 1344, 1346, 1348, 1350, 1352, 1354, 1356, 1358, 1360, 1362, 1364, 1366, 1368, 1370, 1372, 1374, 1376, 1378, 1380, 1382, 1384, 1386, 1388, 1390, 1392, 1394, 1396, 1398, 1400, 1402, 1404, 1406, 1408, 1410, 1412, 1414, 1416, 1418, 1420, 1422, 1424, 1426, 1428, 1430, 1432, 1434, 1436, 1438, 1440, 1442]
def q_pol : List Nat := [0, 4, 9, 13, 23, 38, 49, 56, 68, 81]
theorem q_lay_ok : ∀ k, k < 10 → ∀ j, j < (q_cls.getD k ("", q_F0, 0)).2.2 → q_wat (q_pll.getD (q_pol.getD k 0 + j) 0) (u_lay (q_cls.getD k ("", q_F0, 0)).1 (q_cls.getD k ("", q_F0, 0)).2.1 j) = true := by decide +kernel
theorem q_nam_ok : ∀ k, k < 10 → ∀ a, a < (q_cls.getD k ("", q_F0, 0)).2.2 → ∀ b, b < (q_cls.getD k ("", q_F0, 0)).2.2 → a ≠ b → ((q_cls.getD k ("", q_F0, 0)).2.1 a).2.1 ≠ ((q_cls.getD k ("", q_F0, 0)).2.1 b).2.1 := by
  intro k hk
  match k, hk with
  | 0, _ => exact q_fn0
  | 1, _ => exact q_fn1
  | 2, _ => exact q_fn2
  | 3, _ => exact q_fn3
  | 4, _ => exact q_fn4
  | 5, _ => exact q_fn5
  | 6, _ => exact q_fn6
  | 7, _ => exact q_fn7
  | 8, _ => exact q_fn8
  | 9, _ => exact q_fn9
  | k + 10, hk => exact absurd hk (by omega)
theorem q_clok_ok : q_clok := by
  intro k r hr
  have hk : k < 10 := (List.getElem?_eq_some_iff.mp hr).1
  have e := Option.some.inj (hr.symm.trans (q_cls_at k hk))
  subst e
  refine ⟨fun w hw => ?_, fun j hj => (q_fpar k hk j hj).1, q_nam_ok k hk⟩
  unfold u_ws at hw
  obtain ⟨j, hj, rfl⟩ := List.mem_map.mp hw
  exact q_wat_ok (q_lay_ok k hk j (List.mem_range.mp hj))
theorem q_ho1 : Cond.instanceMethod Lib.objectInit ∈ q_w0 ∧ Cond.code Lib.objectInit ⟨#[0xb1]⟩ 1 none ∈ q_w0 := ⟨q_wat_ok (p := 132) (by decide +kernel), q_wat_ok (p := 133) (by decide +kernel)⟩
theorem q_ho2 : Cond.native arraycopyName ∈ q_w0 ∧ Cond.static arraycopyName ∈ q_w0 ∧ Cond.initialized "java/lang/System" ∈ q_w0 := ⟨q_wat_ok (p := 488) (by decide +kernel), q_wat_ok (p := 487) (by decide +kernel), q_wat_ok (p := 118) (by decide +kernel)⟩
