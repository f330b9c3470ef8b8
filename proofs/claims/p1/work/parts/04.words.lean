theorem i_X0 : ∀ w ∈ u_ws RX0 TX0 4, w ∈ tb_L := tb_lay [413, 415, 417, 419] (by decide +kernel) (by decide +kernel)
theorem df_X0 : ∀ j, j < 4 → defaultValue (tyX0 j) = vp_V [.null, .null, .int 0, .long 0] j := by decide +kernel
theorem i_X1 : ∀ w ∈ u_ws RX1 TX1 6, w ∈ tb_L := tb_lay [388, 390, 392, 394, 396, 398] (by decide +kernel) (by decide +kernel)
theorem df_X1 : ∀ j, j < 6 → defaultValue (tyX1 j) = vp_V [.null, .null, .null, .int 0, .int 0, .int 0] j := by decide +kernel
theorem i_X2 : ∀ w ∈ u_ws RX2 TX2 4, w ∈ tb_L := tb_lay [321, 323, 325, 327] (by decide +kernel) (by decide +kernel)
theorem df_X2 : ∀ j, j < 4 → defaultValue (tyX2 j) = vp_V [.null, .null, .null, .int 0] j := by decide +kernel
theorem i_X3 : ∀ w ∈ u_ws RX3 TX3 3, w ∈ tb_L := tb_lay [303, 305, 307] (by decide +kernel) (by decide +kernel)
theorem df_X3 : ∀ j, j < 3 → defaultValue (tyX3 j) = vp_V [.null, .int 0, .int 0] j := by decide +kernel
theorem i_X4 : ∀ w ∈ u_ws RX4 TX4 9, w ∈ tb_L := tb_lay [346, 348, 350, 352, 354, 356, 358, 360, 362] (by decide +kernel) (by decide +kernel)
theorem df_X4 : ∀ j, j < 9 → defaultValue (tyX4 j) = vp_V [.null, .null, .null, .null, .null, .int 0, .int 0, .int 0, .int 0] j := by decide +kernel
theorem i_X5 : ∀ w ∈ u_ws RX5 TX5 5, w ∈ tb_L := tb_lay [437, 439, 441, 443, 445] (by decide +kernel) (by decide +kernel)
theorem df_X5 : ∀ j, j < 5 → defaultValue (tyX5 j) = vp_V [.null, .null, .null, .null, .int 0] j := by decide +kernel
theorem i_X6 : ∀ w ∈ u_ws RX6 TX6 4, w ∈ tb_L := tb_lay [484, 486, 488, 490] (by decide +kernel) (by decide +kernel)
theorem df_X6 : ∀ j, j < 4 → defaultValue (tyX6 j) = vp_V [.null, .null, .null, .int 0] j := by decide +kernel
theorem i_X7 : ∀ w ∈ u_ws RX7 TX7 10, w ∈ tb_L := tb_lay [269, 271, 273, 275, 277, 279, 281, 283, 285, 287] (by decide +kernel) (by decide +kernel)
theorem df_X7 : ∀ j, j < 10 → defaultValue (tyX7 j) = vp_V [.null, .null, .null, .null, .null, .null, .null, .null, .null, .int 0] j := by decide +kernel
theorem i_X8 : ∀ w ∈ u_ws RX8 TX8 5, w ∈ tb_L := tb_lay [161, 163, 165, 167, 169] (by decide +kernel) (by decide +kernel)
theorem df_X8 : ∀ j, j < 5 → defaultValue (tyX8 j) = vp_V [.null, .int 0, .int 0, .int 0, .int 0] j := by decide +kernel
theorem i_X9 : ∀ w ∈ u_ws RX9 TX9 9, w ∈ tb_L := tb_lay [206, 208, 210, 212, 214, 216, 218, 220, 222] (by decide +kernel) (by decide +kernel)
theorem df_X9 : ∀ j, j < 9 → defaultValue (tyX9 j) = vp_V [.int 0, .int 0, .int 0, .int 0, .null, .null, .null, .null, .null] j := by decide +kernel
theorem i_X10 : ∀ w ∈ u_ws RX10 TX10 4, w ∈ tb_L := tb_lay [462, 464, 466, 468] (by decide +kernel) (by decide +kernel)
theorem df_X10 : ∀ j, j < 4 → defaultValue (tyX10 j) = vp_V [.null, .null, .null, .int 0] j := by decide +kernel
theorem i_X11 : ∀ w ∈ u_ws RX11 TX11 16, w ∈ tb_L := tb_lay [513, 515, 517, 519, 521, 523, 525, 527, 529, 531, 533, 535, 537, 539, 541, 543] (by decide +kernel) (by decide +kernel)
theorem df_X11 : ∀ j, j < 16 → defaultValue (tyX11 j) = vp_V [.null, .null, .null, .null, .null, .null, .null, .null, .null, .null, .null, .null, .null, .int 0, .int 0, .int 0] j := by decide +kernel
theorem i_X12 : ∀ w ∈ u_ws RX12 TX12 37, w ∈ tb_L := tb_lay [1289, 1291, 1293, 1295, 1297, 1299, 1301, 1303, 1305, 1307, 1309, 1311, 1313, 1315, 1317, 1319, 1321, 1323, 1325, 1327, 1329, 1331, 1333, 1335, 1337, 1339, 1341, 1343, 1345, 1347, 1349, 1351, 1353, 1355, 1357, 1359, 1361] (by decide +kernel) (by decide +kernel)
theorem df_X12 : ∀ j, j < 37 → defaultValue (tyX12 j) = vp_V [.null, .int 0, .int 0, .null, .null, .null, .null, .null, .int 0, .int 0, .int 0, .int 0, .int 0, .int 0, .int 0, .null, .int 0, .null, .int 0, .null, .null, .int 0, .int 0, .int 0, .int 0, .int 0, .null, .int 0, .null, .null, .null, .null, .long 0, .null, .null, .null, .null] j := by decide +kernel
