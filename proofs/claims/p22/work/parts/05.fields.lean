theorem in_of {C : String} {T : u_T} {N : Nat} (ps : List Nat) (h : u_ws C T N = ps.filterMap (fun i => lw_tbl[i]?)) (g : (u_ws C T N).all goodWord = true) : ∀ w ∈ u_ws C T N, w ∈ wt := by
  intro w hw
  have h1 := List.all_eq_true.mp g w hw
  rw [h] at hw
  obtain ⟨i, -, hi⟩ := List.mem_filterMap.mp hw
  exact wt_of i hi h1
theorem in_X0 : ∀ w ∈ u_ws RX0 TX0 8, w ∈ wt := in_of [373, 375, 377, 379, 381, 383, 385, 387] (by decide +kernel) (by decide +kernel)
theorem df_X0 : ∀ j, j < 8 → defaultValue (tyX0 j) = vp_V [.null, .null, .null, .null, .int 0, .int 0, .int 0, .int 0] j := by decide +kernel
theorem in_X1 : ∀ w ∈ u_ws RX1 TX1 5, w ∈ wt := in_of [528, 530, 532, 534, 536] (by decide +kernel) (by decide +kernel)
theorem df_X1 : ∀ j, j < 5 → defaultValue (tyX1 j) = vp_V [.null, .null, .int 0, .int 0, .int 0] j := by decide +kernel
theorem in_X2 : ∀ w ∈ u_ws RX2 TX2 7, w ∈ wt := in_of [428, 430, 432, 434, 436, 438, 440] (by decide +kernel) (by decide +kernel)
theorem df_X2 : ∀ j, j < 7 → defaultValue (tyX2 j) = vp_V [.int 0, .int 0, .null, .null, .null, .null, .null] j := by decide +kernel
theorem in_X3 : ∀ w ∈ u_ws RX3 TX3 5, w ∈ wt := in_of [505, 507, 509, 511, 513] (by decide +kernel) (by decide +kernel)
theorem df_X3 : ∀ j, j < 5 → defaultValue (tyX3 j) = vp_V [.null, .null, .null, .null, .int 0] j := by decide +kernel
theorem in_X4 : ∀ w ∈ u_ws RX4 TX4 4, w ∈ wt := in_of [449, 451, 453, 455] (by decide +kernel) (by decide +kernel)
theorem df_X4 : ∀ j, j < 4 → defaultValue (tyX4 j) = vp_V [.null, .int 0, .int 0, .int 0] j := by decide +kernel
theorem in_X5 : ∀ w ∈ u_ws RX5 TX5 19, w ∈ wt := in_of [248, 250, 252, 254, 256, 258, 260, 262, 264, 266, 268, 270, 272, 274, 276, 278, 280, 282, 284] (by decide +kernel) (by decide +kernel)
theorem df_X5 : ∀ j, j < 19 → defaultValue (tyX5 j) = vp_V [.int 0, .int 0, .int 0, .null, .null, .int 0, .int 0, .null, .int 0, .int 0, .null, .null, .null, .null, .int 0, .null, .int 0, .null, .null] j := by decide +kernel
theorem in_X6 : ∀ w ∈ u_ws RX6 TX6 9, w ∈ wt := in_of [336, 338, 340, 342, 344, 346, 348, 350, 352] (by decide +kernel) (by decide +kernel)
theorem df_X6 : ∀ j, j < 9 → defaultValue (tyX6 j) = vp_V [.null, .null, .int 0, .int 0, .int 0, .int 0, .int 0, .null, .null] j := by decide +kernel
theorem in_X7 : ∀ w ∈ u_ws RX7 TX7 10, w ∈ wt := in_of [557, 559, 561, 563, 565, 567, 569, 571, 573, 575] (by decide +kernel) (by decide +kernel)
theorem df_X7 : ∀ j, j < 10 → defaultValue (tyX7 j) = vp_V [.null, .null, .null, .null, .null, .null, .int 0, .int 0, .int 0, .int 0] j := by decide +kernel
theorem in_X8 : ∀ w ∈ u_ws RX8 TX8 8, w ∈ wt := in_of [474, 476, 478, 480, 482, 484, 486, 488] (by decide +kernel) (by decide +kernel)
theorem df_X8 : ∀ j, j < 8 → defaultValue (tyX8 j) = vp_V [.int 0, .null, .null, .null, .null, .null, .null, .null] j := by decide +kernel
theorem in_X9 : ∀ w ∈ u_ws RX9 TX9 6, w ∈ wt := in_of [312, 314, 316, 318, 320, 322] (by decide +kernel) (by decide +kernel)
theorem df_X9 : ∀ j, j < 6 → defaultValue (tyX9 j) = vp_V [.null, .int 0, .int 0, .int 0, .int 0, .int 0] j := by decide +kernel
theorem in_X10 : ∀ w ∈ u_ws RX10 TX10 16, w ∈ wt := in_of [606, 608, 610, 612, 614, 616, 618, 620, 622, 624, 626, 628, 630, 632, 634, 636] (by decide +kernel) (by decide +kernel)
theorem df_X10 : ∀ j, j < 16 → defaultValue (tyX10 j) = vp_V [.null, .int 0, .null, .null, .null, .null, .null, .null, .null, .null, .null, .null, .null, .null, .int 0, .int 0] j := by decide +kernel
theorem in_X11 : ∀ w ∈ u_ws RX11 TX11 71, w ∈ wt := in_of [1320, 1322, 1324, 1326, 1328, 1330, 1332, 1334, 1336, 1338, 1340, 1342, 1344, 1346, 1348, 1350, 1352, 1354, 1356, 1358, 1360, 1362, 1364, 1366, 1368, 1370, 1372, 1374, 1376, 1378, 1380, 1382, 1384, 1386, 1388, 1390, 1392, 1394, 1396, 1398, 1400, 1402, 1404, 1406, 1408, 1410, 1412, 1414, 1416, 1418, 1420, 1422, 1424, 1426, 1428, 1430, 1432, 1434, 1436, 1438, 1440, 1442, 1444, 1446, 1448, 1450, 1452, 1454, 1456, 1458, 1460] (by decide +kernel) (by decide +kernel)
theorem df_X11 : ∀ j, j < 71 → defaultValue (tyX11 j) = vp_V [.null, .null, .int 0, .int 0, .int 0, .int 0, .int 0, .int 0, .int 0, .int 0, .long 0, .null, .null, .null, .null, .null, .null, .null, .null, .null, .null, .null, .null, .null, .null, .null, .null, .null, .null, .null, .null, .null, .null, .null, .null, .null, .null, .null, .int 0, .int 0, .int 0, .int 0, .int 0, .int 0, .null, .null, .null, .null, .null, .int 0, .null, .int 0, .int 0, .null, .null, .null, .int 0, .null, .null, .null, .null, .null, .null, .null, .null, .null, .int 0, .int 0, .int 0, .null, .null] j := by decide +kernel
