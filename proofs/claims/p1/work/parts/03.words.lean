theorem wm_pos {ws : List Cond} (ps : List Nat) (h : ws = ps.filterMap (fun i => lw_tbl[i]?)) : ∀ w ∈ ws, w ∈ lw_tbl := by
  intro w hw
  rw [h] at hw
  obtain ⟨i, -, hi⟩ := List.mem_filterMap.mp hw
  exact List.mem_of_getElem? hi
/-- the words that go on to a callee -/
def wTs : List Cond := lw_tbl.filter goodWord
theorem wmem {i : Nat} {w : Cond} (h : lw_tbl[i]? = some w) (hg : goodWord w = true) : w ∈ wTs := List.mem_filter.mpr ⟨List.mem_of_getElem? h, hg⟩
theorem wgood : ∀ w ∈ wTs, goodWord w = true := fun w h => (List.mem_filter.mp h).2
theorem wsubT {ws : List Cond} (h : ∀ w ∈ ws, w ∈ lw_tbl) (hg : ws.all goodWord = true) : ∀ w ∈ ws, w ∈ wTs := fun w hw => List.mem_filter.mpr ⟨h w hw, List.all_eq_true.mp hg w hw⟩
set_option maxRecDepth 20000 in
theorem uwX0 : ∀ w ∈ u_ws RX0 TX0 6, w ∈ lw_tbl := wm_pos [283,285,287,289,291,293] (by decide +kernel)
set_option maxRecDepth 20000 in
theorem uwX1 : ∀ w ∈ u_ws RX1 TX1 13, w ∈ lw_tbl := wm_pos [190,192,194,196,198,200,202,204,206,208,210,212,214] (by decide +kernel)
set_option maxRecDepth 20000 in
theorem uwX2 : ∀ w ∈ u_ws RX2 TX2 5, w ∈ lw_tbl := wm_pos [378,380,382,384,386] (by decide +kernel)
set_option maxRecDepth 20000 in
theorem uwX3 : ∀ w ∈ u_ws RX3 TX3 5, w ∈ lw_tbl := wm_pos [340,342,344,346,348] (by decide +kernel)
set_option maxRecDepth 20000 in
theorem uwX4 : ∀ w ∈ u_ws RX4 TX4 5, w ∈ lw_tbl := wm_pos [356,358,360,362,364] (by decide +kernel)
set_option maxRecDepth 20000 in
theorem uwX5 : ∀ w ∈ u_ws RX5 TX5 8, w ∈ lw_tbl := wm_pos [410,412,414,416,418,420,422,424] (by decide +kernel)
set_option maxRecDepth 20000 in
theorem uwX6 : ∀ w ∈ u_ws RX6 TX6 10, w ∈ lw_tbl := wm_pos [237,239,241,243,245,247,249,251,253,255] (by decide +kernel)
set_option maxRecDepth 20000 in
theorem uwX7 : ∀ w ∈ u_ws RX7 TX7 5, w ∈ lw_tbl := wm_pos [307,309,311,313,315] (by decide +kernel)
set_option maxRecDepth 20000 in
theorem uwX8 : ∀ w ∈ u_ws RX8 TX8 1, w ∈ lw_tbl := wm_pos [266] (by decide +kernel)
set_option maxRecDepth 20000 in
theorem uwX9 : ∀ w ∈ u_ws RX9 TX9 5, w ∈ lw_tbl := wm_pos [438,440,442,444,446] (by decide +kernel)
set_option maxRecDepth 20000 in
theorem uwX10 : ∀ w ∈ u_ws RX10 TX10 10, w ∈ lw_tbl := wm_pos [467,469,471,473,475,477,479,481,483,485] (by decide +kernel)
set_option maxRecDepth 20000 in
theorem uwX11 : ∀ w ∈ u_ws RX11 TX11 15, w ∈ lw_tbl := wm_pos [504,506,508,510,512,514,516,518,520,522,524,526,528,530,532] (by decide +kernel)
set_option maxRecDepth 20000 in
theorem uwX12 : ∀ w ∈ u_ws RX12 TX12 67, w ∈ lw_tbl := wm_pos [1483,1485,1487,1489,1491,1493,1495,1497,1499,1501,1503,1505,1507,1509,1511,1513,1515,1517,1519,1521,1523,1525,1527,1529,1531,1533,1535,1537,1539,1541,1543,1545,1547,1549,1551,1553,1555,1557,1559,1561,1563,1565,1567,1569,1571,1573,1575,1577,1579,1581,1583,1585,1587,1589,1591,1593,1595,1597,1599,1601,1603,1605,1607,1609,1611,1613,1615] (by decide +kernel)
set_option maxRecDepth 20000 in
theorem utX0 : ∀ w ∈ u_ws RX0 TX0 6, w ∈ wTs := wsubT uwX0 (by decide +kernel)
set_option maxRecDepth 20000 in
theorem utX1 : ∀ w ∈ u_ws RX1 TX1 13, w ∈ wTs := wsubT uwX1 (by decide +kernel)
set_option maxRecDepth 20000 in
theorem utX2 : ∀ w ∈ u_ws RX2 TX2 5, w ∈ wTs := wsubT uwX2 (by decide +kernel)
set_option maxRecDepth 20000 in
theorem utX3 : ∀ w ∈ u_ws RX3 TX3 5, w ∈ wTs := wsubT uwX3 (by decide +kernel)
set_option maxRecDepth 20000 in
theorem utX4 : ∀ w ∈ u_ws RX4 TX4 5, w ∈ wTs := wsubT uwX4 (by decide +kernel)
set_option maxRecDepth 20000 in
theorem utX5 : ∀ w ∈ u_ws RX5 TX5 8, w ∈ wTs := wsubT uwX5 (by decide +kernel)
set_option maxRecDepth 20000 in
theorem utX6 : ∀ w ∈ u_ws RX6 TX6 10, w ∈ wTs := wsubT uwX6 (by decide +kernel)
set_option maxRecDepth 20000 in
theorem utX7 : ∀ w ∈ u_ws RX7 TX7 5, w ∈ wTs := wsubT uwX7 (by decide +kernel)
set_option maxRecDepth 20000 in
theorem utX8 : ∀ w ∈ u_ws RX8 TX8 1, w ∈ wTs := wsubT uwX8 (by decide +kernel)
set_option maxRecDepth 20000 in
theorem utX9 : ∀ w ∈ u_ws RX9 TX9 5, w ∈ wTs := wsubT uwX9 (by decide +kernel)
set_option maxRecDepth 20000 in
theorem utX10 : ∀ w ∈ u_ws RX10 TX10 10, w ∈ wTs := wsubT uwX10 (by decide +kernel)
set_option maxRecDepth 20000 in
theorem utX11 : ∀ w ∈ u_ws RX11 TX11 15, w ∈ wTs := wsubT uwX11 (by decide +kernel)
set_option maxRecDepth 20000 in
theorem utX12 : ∀ w ∈ u_ws RX12 TX12 67, w ∈ wTs := wsubT uwX12 (by decide +kernel)
