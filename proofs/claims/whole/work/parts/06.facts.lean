theorem aw_tP {w : Cond} (i : Nat) (h : (k2_sels lw_privs)[i]? = some w) (hg : goodWord w = true) : w ∈ AW := List.mem_filter.mpr ⟨List.mem_append_left _ (List.mem_of_getElem? h), hg⟩
theorem aw_t1 {w : Cond} (i : Nat) (h : tables_1_1[i]? = some w) (hg : goodWord w = true) : w ∈ AW := List.mem_filter.mpr ⟨List.mem_append_right _ (List.mem_append_left _ (List.mem_of_getElem? h)), hg⟩
theorem aw_t2 {w : Cond} (i : Nat) (h : tables_1_2[i]? = some w) (hg : goodWord w = true) : w ∈ AW := List.mem_filter.mpr ⟨List.mem_append_right _ (List.mem_append_right _ (List.mem_append_left _ (List.mem_of_getElem? h))), hg⟩
theorem aw_t3 {w : Cond} (i : Nat) (h : tables_1_3[i]? = some w) (hg : goodWord w = true) : w ∈ AW := List.mem_filter.mpr ⟨List.mem_append_right _ (List.mem_append_right _ (List.mem_append_right _ (List.mem_append_left _ (List.mem_of_getElem? h)))), hg⟩
theorem aw_t4 {w : Cond} (i : Nat) (h : tables_1_4[i]? = some w) (hg : goodWord w = true) : w ∈ AW := List.mem_filter.mpr ⟨List.mem_append_right _ (List.mem_append_right _ (List.mem_append_right _ (List.mem_append_right _ (List.mem_append_left _ (List.mem_of_getElem? h))))), hg⟩
theorem aw_t5 {w : Cond} (i : Nat) (h : tables_1_5[i]? = some w) (hg : goodWord w = true) : w ∈ AW := List.mem_filter.mpr ⟨List.mem_append_right _ (List.mem_append_right _ (List.mem_append_right _ (List.mem_append_right _ (List.mem_append_right _ (List.mem_append_left _ (List.mem_of_getElem? h)))))), hg⟩
theorem aw_t6 {w : Cond} (i : Nat) (h : tables_1_6[i]? = some w) (hg : goodWord w = true) : w ∈ AW := List.mem_filter.mpr ⟨List.mem_append_right _ (List.mem_append_right _ (List.mem_append_right _ (List.mem_append_right _ (List.mem_append_right _ (List.mem_append_right _ (List.mem_append_left _ (List.mem_of_getElem? h))))))), hg⟩
theorem aw_t7 {w : Cond} (i : Nat) (h : tables_1_7[i]? = some w) (hg : goodWord w = true) : w ∈ AW := List.mem_filter.mpr ⟨List.mem_append_right _ (List.mem_append_right _ (List.mem_append_right _ (List.mem_append_right _ (List.mem_append_right _ (List.mem_append_right _ (List.mem_append_right _ (List.mem_append_left _ (List.mem_of_getElem? h)))))))), hg⟩
theorem aw_t8 {w : Cond} (i : Nat) (h : tables_1_8[i]? = some w) (hg : goodWord w = true) : w ∈ AW := List.mem_filter.mpr ⟨List.mem_append_right _ (List.mem_append_right _ (List.mem_append_right _ (List.mem_append_right _ (List.mem_append_right _ (List.mem_append_right _ (List.mem_append_right _ (List.mem_append_right _ (List.mem_append_left _ (List.mem_of_getElem? h))))))))), hg⟩
theorem aw_t9 {w : Cond} (i : Nat) (h : tables_1_9[i]? = some w) (hg : goodWord w = true) : w ∈ AW := List.mem_filter.mpr ⟨List.mem_append_right _ (List.mem_append_right _ (List.mem_append_right _ (List.mem_append_right _ (List.mem_append_right _ (List.mem_append_right _ (List.mem_append_right _ (List.mem_append_right _ (List.mem_append_right _ (List.mem_of_getElem? h))))))))), hg⟩
set_option maxRecDepth 100000 in
theorem lay_0 : ∀ w ∈ u_ws RX0 TX0 2, w ∈ AW := fun w hw => by
  have h1 : u_ws RX0 TX0 2 = ([527, 529] : List Nat).filterMap (fun i => lw_tbl[i]?) := by decide +kernel
  have h2 : (u_ws RX0 TX0 2).all goodWord = true := by decide +kernel
  have h3 := List.all_eq_true.mp h2 w hw
  rw [h1] at hw
  obtain ⟨i, -, hi⟩ := List.mem_filterMap.mp hw
  exact List.mem_filter.mpr ⟨List.mem_of_getElem? hi, h3⟩
set_option maxRecDepth 100000 in
theorem dfl_0 : ∀ k, k < 2 → defaultValue (tyX0 k) = (match (fk 0)[k]? with | some 2 => Value.long 0 | some 3 => .null | _ => .int 0) := by decide +kernel
theorem cls_0 : Cls 0 RX0 TX0 2 tyX0 := ⟨rfl, lay_0, tyX0_ok, nmX0, by decide, rfl, dfl_0⟩
set_option maxRecDepth 100000 in
theorem lay_1 : ∀ w ∈ u_ws RX1 TX1 8, w ∈ AW := fun w hw => by
  have h1 : u_ws RX1 TX1 8 = ([496, 498, 500, 502, 504, 506, 508, 510] : List Nat).filterMap (fun i => lw_tbl[i]?) := by decide +kernel
  have h2 : (u_ws RX1 TX1 8).all goodWord = true := by decide +kernel
  have h3 := List.all_eq_true.mp h2 w hw
  rw [h1] at hw
  obtain ⟨i, -, hi⟩ := List.mem_filterMap.mp hw
  exact List.mem_filter.mpr ⟨List.mem_of_getElem? hi, h3⟩
set_option maxRecDepth 100000 in
theorem dfl_1 : ∀ k, k < 8 → defaultValue (tyX1 k) = (match (fk 1)[k]? with | some 2 => Value.long 0 | some 3 => .null | _ => .int 0) := by decide +kernel
theorem cls_1 : Cls 1 RX1 TX1 8 tyX1 := ⟨rfl, lay_1, tyX1_ok, nmX1, by decide, rfl, dfl_1⟩
set_option maxRecDepth 100000 in
theorem lay_2 : ∀ w ∈ u_ws RX2 TX2 3, w ∈ AW := fun w hw => by
  have h1 : u_ws RX2 TX2 3 = ([182, 184, 186] : List Nat).filterMap (fun i => lw_tbl[i]?) := by decide +kernel
  have h2 : (u_ws RX2 TX2 3).all goodWord = true := by decide +kernel
  have h3 := List.all_eq_true.mp h2 w hw
  rw [h1] at hw
  obtain ⟨i, -, hi⟩ := List.mem_filterMap.mp hw
  exact List.mem_filter.mpr ⟨List.mem_of_getElem? hi, h3⟩
set_option maxRecDepth 100000 in
theorem dfl_2 : ∀ k, k < 3 → defaultValue (tyX2 k) = (match (fk 2)[k]? with | some 2 => Value.long 0 | some 3 => .null | _ => .int 0) := by decide +kernel
theorem cls_2 : Cls 2 RX2 TX2 3 tyX2 := ⟨rfl, lay_2, tyX2_ok, nmX2, by decide, rfl, dfl_2⟩
set_option maxRecDepth 100000 in
theorem lay_3 : ∀ w ∈ u_ws RX3 TX3 12, w ∈ AW := fun w hw => by
  have h1 : u_ws RX3 TX3 12 = ([233, 235, 237, 239, 241, 243, 245, 247, 249, 251, 253, 255] : List Nat).filterMap (fun i => lw_tbl[i]?) := by decide +kernel
  have h2 : (u_ws RX3 TX3 12).all goodWord = true := by decide +kernel
  have h3 := List.all_eq_true.mp h2 w hw
  rw [h1] at hw
  obtain ⟨i, -, hi⟩ := List.mem_filterMap.mp hw
  exact List.mem_filter.mpr ⟨List.mem_of_getElem? hi, h3⟩
set_option maxRecDepth 100000 in
theorem dfl_3 : ∀ k, k < 12 → defaultValue (tyX3 k) = (match (fk 3)[k]? with | some 2 => Value.long 0 | some 3 => .null | _ => .int 0) := by decide +kernel
theorem cls_3 : Cls 3 RX3 TX3 12 tyX3 := ⟨rfl, lay_3, tyX3_ok, nmX3, by decide, rfl, dfl_3⟩
set_option maxRecDepth 100000 in
theorem lay_4 : ∀ w ∈ u_ws RX4 TX4 9, w ∈ AW := fun w hw => by
  have h1 : u_ws RX4 TX4 9 = ([275, 277, 279, 281, 283, 285, 287, 289, 291] : List Nat).filterMap (fun i => lw_tbl[i]?) := by decide +kernel
  have h2 : (u_ws RX4 TX4 9).all goodWord = true := by decide +kernel
  have h3 := List.all_eq_true.mp h2 w hw
  rw [h1] at hw
  obtain ⟨i, -, hi⟩ := List.mem_filterMap.mp hw
  exact List.mem_filter.mpr ⟨List.mem_of_getElem? hi, h3⟩
set_option maxRecDepth 100000 in
theorem dfl_4 : ∀ k, k < 9 → defaultValue (tyX4 k) = (match (fk 4)[k]? with | some 2 => Value.long 0 | some 3 => .null | _ => .int 0) := by decide +kernel
theorem cls_4 : Cls 4 RX4 TX4 9 tyX4 := ⟨rfl, lay_4, tyX4_ok, nmX4, by decide, rfl, dfl_4⟩
set_option maxRecDepth 100000 in
theorem lay_5 : ∀ w ∈ u_ws RX5 TX5 9, w ∈ AW := fun w hw => by
  have h1 : u_ws RX5 TX5 9 = ([364, 366, 368, 370, 372, 374, 376, 378, 380] : List Nat).filterMap (fun i => lw_tbl[i]?) := by decide +kernel
  have h2 : (u_ws RX5 TX5 9).all goodWord = true := by decide +kernel
  have h3 := List.all_eq_true.mp h2 w hw
  rw [h1] at hw
  obtain ⟨i, -, hi⟩ := List.mem_filterMap.mp hw
  exact List.mem_filter.mpr ⟨List.mem_of_getElem? hi, h3⟩
set_option maxRecDepth 100000 in
theorem dfl_5 : ∀ k, k < 9 → defaultValue (tyX5 k) = (match (fk 5)[k]? with | some 2 => Value.long 0 | some 3 => .null | _ => .int 0) := by decide +kernel
theorem cls_5 : Cls 5 RX5 TX5 9 tyX5 := ⟨rfl, lay_5, tyX5_ok, nmX5, by decide, rfl, dfl_5⟩
set_option maxRecDepth 100000 in
theorem lay_6 : ∀ w ∈ u_ws RX6 TX6 6, w ∈ AW := fun w hw => by
  have h1 : u_ws RX6 TX6 6 = ([470, 472, 474, 476, 478, 480] : List Nat).filterMap (fun i => lw_tbl[i]?) := by decide +kernel
  have h2 : (u_ws RX6 TX6 6).all goodWord = true := by decide +kernel
  have h3 := List.all_eq_true.mp h2 w hw
  rw [h1] at hw
  obtain ⟨i, -, hi⟩ := List.mem_filterMap.mp hw
  exact List.mem_filter.mpr ⟨List.mem_of_getElem? hi, h3⟩
set_option maxRecDepth 100000 in
theorem dfl_6 : ∀ k, k < 6 → defaultValue (tyX6 k) = (match (fk 6)[k]? with | some 2 => Value.long 0 | some 3 => .null | _ => .int 0) := by decide +kernel
theorem cls_6 : Cls 6 RX6 TX6 6 tyX6 := ⟨rfl, lay_6, tyX6_ok, nmX6, by decide, rfl, dfl_6⟩
set_option maxRecDepth 100000 in
theorem lay_7 : ∀ w ∈ u_ws RX7 TX7 6, w ∈ AW := fun w hw => by
  have h1 : u_ws RX7 TX7 6 = ([548, 550, 552, 554, 556, 558] : List Nat).filterMap (fun i => lw_tbl[i]?) := by decide +kernel
  have h2 : (u_ws RX7 TX7 6).all goodWord = true := by decide +kernel
  have h3 := List.all_eq_true.mp h2 w hw
  rw [h1] at hw
  obtain ⟨i, -, hi⟩ := List.mem_filterMap.mp hw
  exact List.mem_filter.mpr ⟨List.mem_of_getElem? hi, h3⟩
set_option maxRecDepth 100000 in
theorem dfl_7 : ∀ k, k < 6 → defaultValue (tyX7 k) = (match (fk 7)[k]? with | some 2 => Value.long 0 | some 3 => .null | _ => .int 0) := by decide +kernel
theorem cls_7 : Cls 7 RX7 TX7 6 tyX7 := ⟨rfl, lay_7, tyX7_ok, nmX7, by decide, rfl, dfl_7⟩
set_option maxRecDepth 100000 in
theorem lay_8 : ∀ w ∈ u_ws RX8 TX8 16, w ∈ AW := fun w hw => by
  have h1 : u_ws RX8 TX8 16 = ([408, 410, 412, 414, 416, 418, 420, 422, 424, 426, 428, 430, 432, 434, 436, 438] : List Nat).filterMap (fun i => lw_tbl[i]?) := by decide +kernel
  have h2 : (u_ws RX8 TX8 16).all goodWord = true := by decide +kernel
  have h3 := List.all_eq_true.mp h2 w hw
  rw [h1] at hw
  obtain ⟨i, -, hi⟩ := List.mem_filterMap.mp hw
  exact List.mem_filter.mpr ⟨List.mem_of_getElem? hi, h3⟩
set_option maxRecDepth 100000 in
theorem dfl_8 : ∀ k, k < 16 → defaultValue (tyX8 k) = (match (fk 8)[k]? with | some 2 => Value.long 0 | some 3 => .null | _ => .int 0) := by decide +kernel
theorem cls_8 : Cls 8 RX8 TX8 16 tyX8 := ⟨rfl, lay_8, tyX8_ok, nmX8, by decide, rfl, dfl_8⟩
set_option maxRecDepth 100000 in
theorem lay_9 : ∀ w ∈ u_ws RX9 TX9 5, w ∈ AW := fun w hw => by
  have h1 : u_ws RX9 TX9 5 = ([949, 951, 953, 955, 957] : List Nat).filterMap (fun i => lw_tbl[i]?) := by decide +kernel
  have h2 : (u_ws RX9 TX9 5).all goodWord = true := by decide +kernel
  have h3 := List.all_eq_true.mp h2 w hw
  rw [h1] at hw
  obtain ⟨i, -, hi⟩ := List.mem_filterMap.mp hw
  exact List.mem_filter.mpr ⟨List.mem_of_getElem? hi, h3⟩
set_option maxRecDepth 100000 in
theorem dfl_9 : ∀ k, k < 5 → defaultValue (tyX9 k) = (match (fk 9)[k]? with | some 2 => Value.long 0 | some 3 => .null | _ => .int 0) := by decide +kernel
theorem cls_9 : Cls 9 RX9 TX9 5 tyX9 := ⟨rfl, lay_9, tyX9_ok, nmX9, by decide, rfl, dfl_9⟩
set_option maxRecDepth 100000 in
theorem lay_10 : ∀ w ∈ u_ws RX10 TX10 5, w ∈ AW := fun w hw => by
  have h1 : u_ws RX10 TX10 5 = ([308, 310, 312, 314, 316] : List Nat).filterMap (fun i => lw_tbl[i]?) := by decide +kernel
  have h2 : (u_ws RX10 TX10 5).all goodWord = true := by decide +kernel
  have h3 := List.all_eq_true.mp h2 w hw
  rw [h1] at hw
  obtain ⟨i, -, hi⟩ := List.mem_filterMap.mp hw
  exact List.mem_filter.mpr ⟨List.mem_of_getElem? hi, h3⟩
set_option maxRecDepth 100000 in
theorem dfl_10 : ∀ k, k < 5 → defaultValue (tyX10 k) = (match (fk 10)[k]? with | some 2 => Value.long 0 | some 3 => .null | _ => .int 0) := by decide +kernel
theorem cls_10 : Cls 10 RX10 TX10 5 tyX10 := ⟨rfl, lay_10, tyX10_ok, nmX10, by decide, rfl, dfl_10⟩
set_option maxRecDepth 100000 in
theorem lay_11 : ∀ w ∈ u_ws RX11 TX11 14, w ∈ AW := fun w hw => by
  have h1 : u_ws RX11 TX11 14 = ([575, 577, 579, 581, 583, 585, 587, 589, 591, 593, 595, 597, 599, 601] : List Nat).filterMap (fun i => lw_tbl[i]?) := by decide +kernel
  have h2 : (u_ws RX11 TX11 14).all goodWord = true := by decide +kernel
  have h3 := List.all_eq_true.mp h2 w hw
  rw [h1] at hw
  obtain ⟨i, -, hi⟩ := List.mem_filterMap.mp hw
  exact List.mem_filter.mpr ⟨List.mem_of_getElem? hi, h3⟩
set_option maxRecDepth 100000 in
theorem dfl_11 : ∀ k, k < 14 → defaultValue (tyX11 k) = (match (fk 11)[k]? with | some 2 => Value.long 0 | some 3 => .null | _ => .int 0) := by decide +kernel
theorem cls_11 : Cls 11 RX11 TX11 14 tyX11 := ⟨rfl, lay_11, tyX11_ok, nmX11, by decide, rfl, dfl_11⟩
set_option maxRecDepth 100000 in
theorem lay_12 : ∀ w ∈ u_ws RX12 TX12 99, w ∈ AW := fun w hw => by
  have h1 : u_ws RX12 TX12 99 = ([1474, 1476, 1478, 1480, 1482, 1484, 1486, 1488, 1490, 1492, 1494, 1496, 1498, 1500, 1502, 1504, 1506, 1508, 1510, 1512, 1514, 1516, 1518, 1520, 1522, 1524, 1526, 1528, 1530, 1532, 1534, 1536, 1538, 1540, 1542, 1544, 1546, 1548, 1550, 1552, 1554, 1556, 1558, 1560, 1562, 1564, 1566, 1568, 1570, 1572, 1574, 1576, 1578, 1580, 1582, 1584, 1586, 1588, 1590, 1592, 1594, 1596, 1598, 1600, 1602, 1604, 1606, 1608, 1610, 1612, 1614, 1616, 1618, 1620, 1622, 1624, 1626, 1628, 1630, 1632, 1634, 1636, 1638, 1640, 1642, 1644, 1646, 1648, 1650, 1652, 1654, 1656, 1658, 1660, 1662, 1664, 1666, 1668, 1670] : List Nat).filterMap (fun i => lw_tbl[i]?) := by decide +kernel
  have h2 : (u_ws RX12 TX12 99).all goodWord = true := by decide +kernel
  have h3 := List.all_eq_true.mp h2 w hw
  rw [h1] at hw
  obtain ⟨i, -, hi⟩ := List.mem_filterMap.mp hw
  exact List.mem_filter.mpr ⟨List.mem_of_getElem? hi, h3⟩
set_option maxRecDepth 100000 in
theorem dfl_12 : ∀ k, k < 99 → defaultValue (tyX12 k) = (match (fk 12)[k]? with | some 2 => Value.long 0 | some 3 => .null | _ => .int 0) := by decide +kernel
theorem cls_12 : Cls 12 RX12 TX12 99 tyX12 := ⟨rfl, lay_12, tyX12_ok, nmX12, by decide, rfl, dfl_12⟩
set_option maxRecDepth 100000 in
theorem fl_RX11_15 : FL RX11 15 11 0 0 (.int) true := ⟨RX11, TX11, 14, tyX11, cls_11, by decide, (aw_t2 204 rfl rfl), rfl, rfl, rfl, rfl⟩
set_option maxRecDepth 100000 in
theorem fl_RX11_24 : FL RX11 24 11 1 3 (.object "OrderedWorks$Net") true := ⟨RX11, TX11, 14, tyX11, cls_11, by decide, (aw_t2 205 rfl rfl), rfl, rfl, rfl, rfl⟩
set_option maxRecDepth 100000 in
theorem fl_RX11_31 : FL RX11 31 11 2 3 (.object "OrderedWorks$Table") true := ⟨RX11, TX11, 14, tyX11, cls_11, by decide, (aw_t2 206 rfl rfl), rfl, rfl, rfl, rfl⟩
set_option maxRecDepth 100000 in
theorem fl_RX11_35 : FL RX11 35 4 0 0 (.int) true := ⟨RX4, TX4, 9, tyX4, cls_4, by decide, (aw_t1 142 rfl rfl), rfl, rfl, rfl, rfl⟩
set_option maxRecDepth 100000 in
theorem fl_RX11_40 : FL RX11 40 11 3 3 (.array (.object "OrderedWorks$Replica")) true := ⟨RX11, TX11, 14, tyX11, cls_11, by decide, (aw_t2 207 rfl rfl), rfl, rfl, rfl, rfl⟩
set_option maxRecDepth 100000 in
theorem fl_RX11_48 : FL RX11 48 11 4 3 (.array (.object "OrderedWorks$Client")) true := ⟨RX11, TX11, 14, tyX11, cls_11, by decide, (aw_t2 208 rfl rfl), rfl, rfl, rfl, rfl⟩
set_option maxRecDepth 100000 in
theorem fl_RX11_53 : FL RX11 53 11 5 1 (.boolean) false := ⟨RX11, TX11, 14, tyX11, cls_11, by decide, (aw_t2 209 rfl rfl), rfl, rfl, rfl, rfl⟩
set_option maxRecDepth 100000 in
theorem fl_RX11_57 : FL RX11 57 11 6 0 (.int) false := ⟨RX11, TX11, 14, tyX11, cls_11, by decide, (aw_t2 210 rfl rfl), rfl, rfl, rfl, rfl⟩
set_option maxRecDepth 100000 in
theorem fl_RX11_62 : FL RX11 62 11 9 3 (.array (.object "OrderedWorks$Place")) true := ⟨RX11, TX11, 14, tyX11, cls_11, by decide, (aw_t2 213 rfl rfl), rfl, rfl, rfl, rfl⟩
set_option maxRecDepth 100000 in
theorem fl_RX11_70 : FL RX11 70 11 11 3 (.object "OrderedWorks$Bytes") true := ⟨RX11, TX11, 14, tyX11, cls_11, by decide, (aw_t2 215 rfl rfl), rfl, rfl, rfl, rfl⟩
set_option maxRecDepth 100000 in
theorem fl_RX11_74 : FL RX11 74 11 12 3 (.object "OrderedWorks$Bytes") true := ⟨RX11, TX11, 14, tyX11, cls_11, by decide, (aw_t2 216 rfl rfl), rfl, rfl, rfl, rfl⟩
set_option maxRecDepth 100000 in
theorem fl_RX11_82 : FL RX11 82 11 13 3 (.object "OrderedWorks$Reader") true := ⟨RX11, TX11, 14, tyX11, cls_11, by decide, (aw_t2 217 rfl rfl), rfl, rfl, rfl, rfl⟩
set_option maxRecDepth 100000 in
theorem fl_RX11_102 : FL RX11 102 1 2 1 (.boolean) false := ⟨RX1, TX1, 8, tyX1, cls_1, by decide, (aw_t2 132 rfl rfl), rfl, rfl, rfl, rfl⟩
set_option maxRecDepth 100000 in
theorem fl_RX11_112 : FL RX11 112 1 1 0 (.int) false := ⟨RX1, TX1, 8, tyX1, cls_1, by decide, (aw_t2 130 rfl rfl), rfl, rfl, rfl, rfl⟩
set_option maxRecDepth 100000 in
theorem fl_RX11_143 : FL RX11 143 4 7 0 (.int) false := ⟨RX4, TX4, 9, tyX4, cls_4, by decide, (aw_t1 154 rfl rfl), rfl, rfl, rfl, rfl⟩
set_option maxRecDepth 100000 in
theorem fl_RX11_148 : FL RX11 148 4 5 0 (.int) false := ⟨RX4, TX4, 9, tyX4, cls_4, by decide, (aw_t1 151 rfl rfl), rfl, rfl, rfl, rfl⟩
set_option maxRecDepth 100000 in
theorem fl_RX11_156 : FL RX11 156 8 3 1 (.boolean) false := ⟨RX8, TX8, 16, tyX8, cls_8, by decide, (aw_t2 30 rfl rfl), rfl, rfl, rfl, rfl⟩
set_option maxRecDepth 100000 in
theorem fl_RX11_163 : FL RX11 163 4 1 0 (.int) true := ⟨RX4, TX4, 9, tyX4, cls_4, by decide, (aw_t1 145 rfl rfl), rfl, rfl, rfl, rfl⟩
set_option maxRecDepth 100000 in
theorem fl_RX11_168 : FL RX11 168 8 10 3 (.object "OrderedWorks$Pending") true := ⟨RX8, TX8, 16, tyX8, cls_8, by decide, (aw_t2 44 rfl rfl), rfl, rfl, rfl, rfl⟩
set_option maxRecDepth 100000 in
theorem fl_RX11_179 : FL RX11 179 4 8 0 (.int) false := ⟨RX4, TX4, 9, tyX4, cls_4, by decide, (aw_t1 157 rfl rfl), rfl, rfl, rfl, rfl⟩
set_option maxRecDepth 100000 in
theorem fl_RX11_182 : FL RX11 182 8 11 0 (.int) false := ⟨RX8, TX8, 16, tyX8, cls_8, by decide, (aw_t2 46 rfl rfl), rfl, rfl, rfl, rfl⟩
set_option maxRecDepth 100000 in
theorem fl_RX11_190 : FL RX11 190 4 6 0 (.int) false := ⟨RX4, TX4, 9, tyX4, cls_4, by decide, (aw_t1 153 rfl rfl), rfl, rfl, rfl, rfl⟩
set_option maxRecDepth 100000 in
theorem fl_RX11_200 : FL RX11 200 8 4 0 (.int) false := ⟨RX8, TX8, 16, tyX8, cls_8, by decide, (aw_t2 32 rfl rfl), rfl, rfl, rfl, rfl⟩
set_option maxRecDepth 100000 in
theorem fl_RX11_213 : FL RX11 213 11 10 0 (.int) false := ⟨RX11, TX11, 14, tyX11, cls_11, by decide, (aw_t2 214 rfl rfl), rfl, rfl, rfl, rfl⟩
set_option maxRecDepth 100000 in
theorem fl_RX11_216 : FL RX11 216 11 8 0 (.int) false := ⟨RX11, TX11, 14, tyX11, cls_11, by decide, (aw_t2 212 rfl rfl), rfl, rfl, rfl, rfl⟩
set_option maxRecDepth 100000 in
theorem fl_RX11_222 : FL RX11 222 8 5 2 (.long) false := ⟨RX8, TX8, 16, tyX8, cls_8, by decide, (aw_t2 34 rfl rfl), rfl, rfl, rfl, rfl⟩
set_option maxRecDepth 100000 in
theorem fl_RX11_233 : FL RX11 233 8 7 3 (.object "OrderedWorks$Log") true := ⟨RX8, TX8, 16, tyX8, cls_8, by decide, (aw_t2 38 rfl rfl), rfl, rfl, rfl, rfl⟩
set_option maxRecDepth 100000 in
theorem fl_RX11_237 : FL RX11 237 2 2 0 (.int) false := ⟨RX2, TX2, 3, tyX2, cls_2, by decide, (aw_t1 64 rfl rfl), rfl, rfl, rfl, rfl⟩
set_option maxRecDepth 100000 in
theorem fl_RX11_242 : FL RX11 242 2 1 0 (.int) false := ⟨RX2, TX2, 3, tyX2, cls_2, by decide, (aw_t1 60 rfl rfl), rfl, rfl, rfl, rfl⟩
set_option maxRecDepth 100000 in
theorem fl_RX11_245 : FL RX11 245 8 8 0 (.int) false := ⟨RX8, TX8, 16, tyX8, cls_8, by decide, (aw_t2 40 rfl rfl), rfl, rfl, rfl, rfl⟩
set_option maxRecDepth 100000 in
theorem fl_RX11_248 : FL RX11 248 5 2 0 (.int) false := ⟨RX5, TX5, 9, tyX5, cls_5, by decide, (aw_t1 234 rfl rfl), rfl, rfl, rfl, rfl⟩
set_option maxRecDepth 100000 in
theorem fl_RX11_251 : FL RX11 251 8 6 2 (.long) false := ⟨RX8, TX8, 16, tyX8, cls_8, by decide, (aw_t2 36 rfl rfl), rfl, rfl, rfl, rfl⟩
set_option maxRecDepth 100000 in
theorem fl_RX11_254 : FL RX11 254 8 9 0 (.int) false := ⟨RX8, TX8, 16, tyX8, cls_8, by decide, (aw_t2 42 rfl rfl), rfl, rfl, rfl, rfl⟩
set_option maxRecDepth 100000 in
theorem fl_RX11_264 : FL RX11 264 9 4 0 (.int) true := ⟨RX9, TX9, 5, tyX9, cls_9, by decide, (aw_t4 111 rfl rfl), rfl, rfl, rfl, rfl⟩
set_option maxRecDepth 100000 in
theorem fl_RX11_267 : FL RX11 267 9 0 0 (.int) true := ⟨RX9, TX9, 5, tyX9, cls_9, by decide, (aw_t4 93 rfl rfl), rfl, rfl, rfl, rfl⟩
set_option maxRecDepth 100000 in
theorem fl_RX11_270 : FL RX11 270 9 1 0 (.int) true := ⟨RX9, TX9, 5, tyX9, cls_9, by decide, (aw_t4 99 rfl rfl), rfl, rfl, rfl, rfl⟩
set_option maxRecDepth 100000 in
theorem fl_RX11_273 : FL RX11 273 9 2 0 (.int) true := ⟨RX9, TX9, 5, tyX9, cls_9, by decide, (aw_t4 103 rfl rfl), rfl, rfl, rfl, rfl⟩
set_option maxRecDepth 100000 in
theorem fl_RX11_276 : FL RX11 276 9 3 0 (.int) true := ⟨RX9, TX9, 5, tyX9, cls_9, by decide, (aw_t4 107 rfl rfl), rfl, rfl, rfl, rfl⟩
set_option maxRecDepth 100000 in
theorem fl_RX11_286 : FL RX11 286 10 0 3 (.array (.int)) true := ⟨RX10, TX10, 5, tyX10, cls_10, by decide, (aw_t1 184 rfl rfl), rfl, rfl, rfl, rfl⟩
set_option maxRecDepth 100000 in
theorem fl_RX11_290 : FL RX11 290 1 4 3 (.object "OrderedWorks$Place") true := ⟨RX1, TX1, 8, tyX1, cls_1, by decide, (aw_t2 135 rfl rfl), rfl, rfl, rfl, rfl⟩
set_option maxRecDepth 100000 in
theorem fl_RX11_293 : FL RX11 293 6 2 0 (.int) false := ⟨RX6, TX6, 6, tyX6, cls_6, by decide, (aw_t2 105 rfl rfl), rfl, rfl, rfl, rfl⟩
set_option maxRecDepth 100000 in
theorem fl_RX11_296 : FL RX11 296 6 1 2 (.long) false := ⟨RX6, TX6, 6, tyX6, cls_6, by decide, (aw_t2 101 rfl rfl), rfl, rfl, rfl, rfl⟩
set_option maxRecDepth 100000 in
theorem fl_RX11_297 : FL RX11 297 6 4 0 (.int) false := ⟨RX6, TX6, 6, tyX6, cls_6, by decide, (aw_t2 111 rfl rfl), rfl, rfl, rfl, rfl⟩
set_option maxRecDepth 100000 in
theorem fl_RX11_300 : FL RX11 300 11 7 0 (.int) false := ⟨RX11, TX11, 14, tyX11, cls_11, by decide, (aw_t2 211 rfl rfl), rfl, rfl, rfl, rfl⟩
set_option maxRecDepth 100000 in
theorem fl_RX11_305 : FL RX11 305 3 0 0 (.int) false := ⟨RX3, TX3, 12, tyX3, cls_3, by decide, (aw_t1 73 rfl rfl), rfl, rfl, rfl, rfl⟩
set_option maxRecDepth 100000 in
theorem fl_RX11_308 : FL RX11 308 3 1 0 (.int) false := ⟨RX3, TX3, 12, tyX3, cls_3, by decide, (aw_t1 77 rfl rfl), rfl, rfl, rfl, rfl⟩
set_option maxRecDepth 100000 in
theorem fl_RX11_309 : FL RX11 309 3 2 0 (.int) false := ⟨RX3, TX3, 12, tyX3, cls_3, by decide, (aw_t1 83 rfl rfl), rfl, rfl, rfl, rfl⟩
set_option maxRecDepth 100000 in
theorem fl_RX11_312 : FL RX11 312 3 3 0 (.int) false := ⟨RX3, TX3, 12, tyX3, cls_3, by decide, (aw_t1 86 rfl rfl), rfl, rfl, rfl, rfl⟩
set_option maxRecDepth 100000 in
theorem fl_RX11_318 : FL RX11 318 0 1 0 (.int) false := ⟨RX0, TX0, 2, tyX0, cls_0, by decide, (aw_t2 169 rfl rfl), rfl, rfl, rfl, rfl⟩
set_option maxRecDepth 100000 in
theorem fl_RX11_344 : FL RX11 344 7 3 0 (.int) false := ⟨RX7, TX7, 6, tyX7, cls_7, by decide, (aw_t2 187 rfl rfl), rfl, rfl, rfl, rfl⟩
set_option maxRecDepth 100000 in
theorem fl_RX11_350 : FL RX11 350 7 4 0 (.int) false := ⟨RX7, TX7, 6, tyX7, cls_7, by decide, (aw_t2 189 rfl rfl), rfl, rfl, rfl, rfl⟩
set_option maxRecDepth 100000 in
theorem fl_RX11_353 : FL RX11 353 7 2 0 (.int) false := ⟨RX7, TX7, 6, tyX7, cls_7, by decide, (aw_t2 185 rfl rfl), rfl, rfl, rfl, rfl⟩
set_option maxRecDepth 100000 in
theorem fl_RX11_357 : FL RX11 357 6 5 1 (.boolean) false := ⟨RX6, TX6, 6, tyX6, cls_6, by decide, (aw_t2 112 rfl rfl), rfl, rfl, rfl, rfl⟩
set_option maxRecDepth 100000 in
theorem fl_RX11_372 : FL RX11 372 1 3 0 (.int) false := ⟨RX1, TX1, 8, tyX1, cls_1, by decide, (aw_t2 133 rfl rfl), rfl, rfl, rfl, rfl⟩
set_option maxRecDepth 100000 in
theorem fl_RX11_383 : FL RX11 383 1 0 3 (.object "OrderedWorks$Request") false := ⟨RX1, TX1, 8, tyX1, cls_1, by decide, (aw_t2 128 rfl rfl), rfl, rfl, rfl, rfl⟩
set_option maxRecDepth 100000 in
theorem fl_RX11_387 : FL RX11 387 3 7 3 (.object "OrderedWorks$Request") false := ⟨RX3, TX3, 12, tyX3, cls_3, by decide, (aw_t1 102 rfl rfl), rfl, rfl, rfl, rfl⟩
set_option maxRecDepth 100000 in
theorem fl_RX11_399 : FL RX11 399 3 4 2 (.long) false := ⟨RX3, TX3, 12, tyX3, cls_3, by decide, (aw_t1 91 rfl rfl), rfl, rfl, rfl, rfl⟩
set_option maxRecDepth 100000 in
theorem fl_RX0_15 : FL RX0 15 0 0 3 (.array (.byte)) true := ⟨RX0, TX0, 2, tyX0, cls_0, by decide, (aw_t2 165 rfl rfl), rfl, rfl, rfl, rfl⟩
set_option maxRecDepth 100000 in
theorem fl_RX0_21 : FL RX0 21 0 1 0 (.int) false := ⟨RX0, TX0, 2, tyX0, cls_0, by decide, (aw_t2 167 rfl rfl), rfl, rfl, rfl, rfl⟩
set_option maxRecDepth 100000 in
theorem fl_RX1_12 : FL RX1 12 1 4 3 (.object "OrderedWorks$Place") true := ⟨RX1, TX1, 8, tyX1, cls_1, by decide, (aw_t2 134 rfl rfl), rfl, rfl, rfl, rfl⟩
set_option maxRecDepth 100000 in
theorem fl_RX1_18 : FL RX1 18 1 5 3 (.array (.object "OrderedWorks$Place")) true := ⟨RX1, TX1, 8, tyX1, cls_1, by decide, (aw_t2 136 rfl rfl), rfl, rfl, rfl, rfl⟩
set_option maxRecDepth 100000 in
theorem fl_RX1_22 : FL RX1 22 1 0 3 (.object "OrderedWorks$Request") false := ⟨RX1, TX1, 8, tyX1, cls_1, by decide, (aw_t2 127 rfl rfl), rfl, rfl, rfl, rfl⟩
set_option maxRecDepth 100000 in
theorem fl_RX1_26 : FL RX1 26 9 1 0 (.int) true := ⟨RX9, TX9, 5, tyX9, cls_9, by decide, (aw_t4 95 rfl rfl), rfl, rfl, rfl, rfl⟩
set_option maxRecDepth 100000 in
theorem fl_RX1_32 : FL RX1 32 1 1 0 (.int) false := ⟨RX1, TX1, 8, tyX1, cls_1, by decide, (aw_t2 129 rfl rfl), rfl, rfl, rfl, rfl⟩
set_option maxRecDepth 100000 in
theorem fl_RX1_35 : FL RX1 35 1 2 1 (.boolean) false := ⟨RX1, TX1, 8, tyX1, cls_1, by decide, (aw_t2 131 rfl rfl), rfl, rfl, rfl, rfl⟩
set_option maxRecDepth 100000 in
theorem fl_RX1_39 : FL RX1 39 1 6 0 (.int) false := ⟨RX1, TX1, 8, tyX1, cls_1, by decide, (aw_t2 137 rfl rfl), rfl, rfl, rfl, rfl⟩
set_option maxRecDepth 100000 in
theorem fl_RX1_42 : FL RX1 42 1 7 0 (.int) false := ⟨RX1, TX1, 8, tyX1, cls_1, by decide, (aw_t2 138 rfl rfl), rfl, rfl, rfl, rfl⟩
set_option maxRecDepth 100000 in
theorem fl_RX1_45 : FL RX1 45 3 8 0 (.int) false := ⟨RX3, TX3, 12, tyX3, cls_3, by decide, (aw_t1 103 rfl rfl), rfl, rfl, rfl, rfl⟩
set_option maxRecDepth 100000 in
theorem fl_RX1_50 : FL RX1 50 3 4 2 (.long) false := ⟨RX3, TX3, 12, tyX3, cls_3, by decide, (aw_t1 88 rfl rfl), rfl, rfl, rfl, rfl⟩
set_option maxRecDepth 100000 in
theorem fl_RX1_54 : FL RX1 54 3 6 0 (.int) false := ⟨RX3, TX3, 12, tyX3, cls_3, by decide, (aw_t1 95 rfl rfl), rfl, rfl, rfl, rfl⟩
set_option maxRecDepth 100000 in
theorem fl_RX1_61 : FL RX1 61 6 3 0 (.int) false := ⟨RX6, TX6, 6, tyX6, cls_6, by decide, (aw_t2 107 rfl rfl), rfl, rfl, rfl, rfl⟩
set_option maxRecDepth 100000 in
theorem fl_RX1_64 : FL RX1 64 3 2 0 (.int) false := ⟨RX3, TX3, 12, tyX3, cls_3, by decide, (aw_t1 79 rfl rfl), rfl, rfl, rfl, rfl⟩
set_option maxRecDepth 100000 in
theorem fl_RX1_67 : FL RX1 67 3 9 1 (.boolean) false := ⟨RX3, TX3, 12, tyX3, cls_3, by decide, (aw_t1 106 rfl rfl), rfl, rfl, rfl, rfl⟩
set_option maxRecDepth 100000 in
theorem fl_RX1_70 : FL RX1 70 3 10 0 (.int) false := ⟨RX3, TX3, 12, tyX3, cls_3, by decide, (aw_t1 110 rfl rfl), rfl, rfl, rfl, rfl⟩
set_option maxRecDepth 100000 in
theorem fl_RX1_73 : FL RX1 73 6 4 0 (.int) false := ⟨RX6, TX6, 6, tyX6, cls_6, by decide, (aw_t2 109 rfl rfl), rfl, rfl, rfl, rfl⟩
set_option maxRecDepth 100000 in
theorem fl_RX1_84 : FL RX1 84 6 1 2 (.long) false := ⟨RX6, TX6, 6, tyX6, cls_6, by decide, (aw_t2 100 rfl rfl), rfl, rfl, rfl, rfl⟩
set_option maxRecDepth 100000 in
theorem fl_RX1_85 : FL RX1 85 6 2 0 (.int) false := ⟨RX6, TX6, 6, tyX6, cls_6, by decide, (aw_t2 104 rfl rfl), rfl, rfl, rfl, rfl⟩
set_option maxRecDepth 100000 in
theorem fl_RX2_11 : FL RX2 11 2 0 3 (.array (.object "OrderedWorks$Request")) true := ⟨RX2, TX2, 3, tyX2, cls_2, by decide, (aw_t1 54 rfl rfl), rfl, rfl, rfl, rfl⟩
set_option maxRecDepth 100000 in
theorem fl_RX2_17 : FL RX2 17 2 1 0 (.int) false := ⟨RX2, TX2, 3, tyX2, cls_2, by decide, (aw_t1 57 rfl rfl), rfl, rfl, rfl, rfl⟩
set_option maxRecDepth 100000 in
theorem fl_RX2_25 : FL RX2 25 2 2 0 (.int) false := ⟨RX2, TX2, 3, tyX2, cls_2, by decide, (aw_t1 63 rfl rfl), rfl, rfl, rfl, rfl⟩
set_option maxRecDepth 100000 in
theorem fl_RX2_52 : FL RX2 52 9 0 0 (.int) true := ⟨RX9, TX9, 5, tyX9, cls_9, by decide, (aw_t4 91 rfl rfl), rfl, rfl, rfl, rfl⟩
set_option maxRecDepth 100000 in
theorem fl_RX2_55 : FL RX2 55 9 2 0 (.int) true := ⟨RX9, TX9, 5, tyX9, cls_9, by decide, (aw_t4 102 rfl rfl), rfl, rfl, rfl, rfl⟩
set_option maxRecDepth 100000 in
theorem fl_RX2_58 : FL RX2 58 9 3 0 (.int) true := ⟨RX9, TX9, 5, tyX9, cls_9, by decide, (aw_t4 106 rfl rfl), rfl, rfl, rfl, rfl⟩
set_option maxRecDepth 100000 in
theorem fl_RX2_61 : FL RX2 61 9 1 0 (.int) true := ⟨RX9, TX9, 5, tyX9, cls_9, by decide, (aw_t4 97 rfl rfl), rfl, rfl, rfl, rfl⟩
set_option maxRecDepth 100000 in
theorem fl_RX2_67 : FL RX2 67 9 4 0 (.int) true := ⟨RX9, TX9, 5, tyX9, cls_9, by decide, (aw_t4 110 rfl rfl), rfl, rfl, rfl, rfl⟩
set_option maxRecDepth 100000 in
theorem fl_RX3_12 : FL RX3 12 3 11 3 (.object "OrderedWorks$Log") true := ⟨RX3, TX3, 12, tyX3, cls_3, by decide, (aw_t1 113 rfl rfl), rfl, rfl, rfl, rfl⟩
set_option maxRecDepth 100000 in
theorem fl_RX3_18 : FL RX3 18 0 1 0 (.int) false := ⟨RX0, TX0, 2, tyX0, cls_0, by decide, (aw_t2 166 rfl rfl), rfl, rfl, rfl, rfl⟩
set_option maxRecDepth 100000 in
theorem fl_RX3_24 : FL RX3 24 3 1 0 (.int) false := ⟨RX3, TX3, 12, tyX3, cls_3, by decide, (aw_t1 74 rfl rfl), rfl, rfl, rfl, rfl⟩
set_option maxRecDepth 100000 in
theorem fl_RX3_31 : FL RX3 31 3 2 0 (.int) false := ⟨RX3, TX3, 12, tyX3, cls_3, by decide, (aw_t1 78 rfl rfl), rfl, rfl, rfl, rfl⟩
set_option maxRecDepth 100000 in
theorem fl_RX3_34 : FL RX3 34 3 3 0 (.int) false := ⟨RX3, TX3, 12, tyX3, cls_3, by decide, (aw_t1 84 rfl rfl), rfl, rfl, rfl, rfl⟩
set_option maxRecDepth 100000 in
theorem fl_RX3_37 : FL RX3 37 3 4 2 (.long) false := ⟨RX3, TX3, 12, tyX3, cls_3, by decide, (aw_t1 87 rfl rfl), rfl, rfl, rfl, rfl⟩
set_option maxRecDepth 100000 in
theorem fl_RX3_66 : FL RX3 66 3 5 2 (.long) false := ⟨RX3, TX3, 12, tyX3, cls_3, by decide, (aw_t1 92 rfl rfl), rfl, rfl, rfl, rfl⟩
set_option maxRecDepth 100000 in
theorem fl_RX3_69 : FL RX3 69 2 2 0 (.int) false := ⟨RX2, TX2, 3, tyX2, cls_2, by decide, (aw_t1 61 rfl rfl), rfl, rfl, rfl, rfl⟩
set_option maxRecDepth 100000 in
theorem fl_RX3_72 : FL RX3 72 3 6 0 (.int) false := ⟨RX3, TX3, 12, tyX3, cls_3, by decide, (aw_t1 96 rfl rfl), rfl, rfl, rfl, rfl⟩
set_option maxRecDepth 100000 in
theorem fl_RX3_75 : FL RX3 75 3 8 0 (.int) false := ⟨RX3, TX3, 12, tyX3, cls_3, by decide, (aw_t1 104 rfl rfl), rfl, rfl, rfl, rfl⟩
set_option maxRecDepth 100000 in
theorem fl_RX3_78 : FL RX3 78 3 9 1 (.boolean) false := ⟨RX3, TX3, 12, tyX3, cls_3, by decide, (aw_t1 107 rfl rfl), rfl, rfl, rfl, rfl⟩
set_option maxRecDepth 100000 in
theorem fl_RX3_82 : FL RX3 82 3 10 0 (.int) false := ⟨RX3, TX3, 12, tyX3, cls_3, by decide, (aw_t1 111 rfl rfl), rfl, rfl, rfl, rfl⟩
set_option maxRecDepth 100000 in
theorem fl_RX3_85 : FL RX3 85 3 7 3 (.object "OrderedWorks$Request") false := ⟨RX3, TX3, 12, tyX3, cls_3, by decide, (aw_t1 99 rfl rfl), rfl, rfl, rfl, rfl⟩
set_option maxRecDepth 100000 in
theorem fl_RX4_11 : FL RX4 11 4 2 3 (.array (.object "OrderedWorks$Message")) true := ⟨RX4, TX4, 9, tyX4, cls_4, by decide, (aw_t1 147 rfl rfl), rfl, rfl, rfl, rfl⟩
set_option maxRecDepth 100000 in
theorem fl_RX4_18 : FL RX4 18 4 3 3 (.object "OrderedWorks$Message") true := ⟨RX4, TX4, 9, tyX4, cls_4, by decide, (aw_t1 148 rfl rfl), rfl, rfl, rfl, rfl⟩
set_option maxRecDepth 100000 in
theorem fl_RX4_22 : FL RX4 22 4 0 0 (.int) true := ⟨RX4, TX4, 9, tyX4, cls_4, by decide, (aw_t1 141 rfl rfl), rfl, rfl, rfl, rfl⟩
set_option maxRecDepth 100000 in
theorem fl_RX4_26 : FL RX4 26 4 1 0 (.int) true := ⟨RX4, TX4, 9, tyX4, cls_4, by decide, (aw_t1 144 rfl rfl), rfl, rfl, rfl, rfl⟩
set_option maxRecDepth 100000 in
theorem fl_RX4_29 : FL RX4 29 4 4 0 (.int) false := ⟨RX4, TX4, 9, tyX4, cls_4, by decide, (aw_t1 149 rfl rfl), rfl, rfl, rfl, rfl⟩
set_option maxRecDepth 100000 in
theorem fl_RX4_42 : FL RX4 42 4 5 0 (.int) false := ⟨RX4, TX4, 9, tyX4, cls_4, by decide, (aw_t1 150 rfl rfl), rfl, rfl, rfl, rfl⟩
set_option maxRecDepth 100000 in
theorem fl_RX4_49 : FL RX4 49 3 0 0 (.int) false := ⟨RX3, TX3, 12, tyX3, cls_3, by decide, (aw_t1 72 rfl rfl), rfl, rfl, rfl, rfl⟩
set_option maxRecDepth 100000 in
theorem fl_RX4_52 : FL RX4 52 4 7 0 (.int) false := ⟨RX4, TX4, 9, tyX4, cls_4, by decide, (aw_t1 155 rfl rfl), rfl, rfl, rfl, rfl⟩
set_option maxRecDepth 100000 in
theorem fl_RX4_55 : FL RX4 55 4 6 0 (.int) false := ⟨RX4, TX4, 9, tyX4, cls_4, by decide, (aw_t1 152 rfl rfl), rfl, rfl, rfl, rfl⟩
set_option maxRecDepth 100000 in
theorem fl_RX4_58 : FL RX4 58 3 1 0 (.int) false := ⟨RX3, TX3, 12, tyX3, cls_3, by decide, (aw_t1 76 rfl rfl), rfl, rfl, rfl, rfl⟩
set_option maxRecDepth 100000 in
theorem fl_RX4_61 : FL RX4 61 3 2 0 (.int) false := ⟨RX3, TX3, 12, tyX3, cls_3, by decide, (aw_t1 81 rfl rfl), rfl, rfl, rfl, rfl⟩
set_option maxRecDepth 100000 in
theorem fl_RX4_64 : FL RX4 64 3 3 0 (.int) false := ⟨RX3, TX3, 12, tyX3, cls_3, by decide, (aw_t1 85 rfl rfl), rfl, rfl, rfl, rfl⟩
set_option maxRecDepth 100000 in
theorem fl_RX4_67 : FL RX4 67 3 4 2 (.long) false := ⟨RX3, TX3, 12, tyX3, cls_3, by decide, (aw_t1 90 rfl rfl), rfl, rfl, rfl, rfl⟩
set_option maxRecDepth 100000 in
theorem fl_RX4_71 : FL RX4 71 3 6 0 (.int) false := ⟨RX3, TX3, 12, tyX3, cls_3, by decide, (aw_t1 98 rfl rfl), rfl, rfl, rfl, rfl⟩
set_option maxRecDepth 100000 in
theorem fl_RX4_74 : FL RX4 74 3 7 3 (.object "OrderedWorks$Request") false := ⟨RX3, TX3, 12, tyX3, cls_3, by decide, (aw_t1 100 rfl rfl), rfl, rfl, rfl, rfl⟩
set_option maxRecDepth 100000 in
theorem fl_RX4_78 : FL RX4 78 3 9 1 (.boolean) false := ⟨RX3, TX3, 12, tyX3, cls_3, by decide, (aw_t1 108 rfl rfl), rfl, rfl, rfl, rfl⟩
set_option maxRecDepth 100000 in
theorem fl_RX5_9 : FL RX5 9 5 0 3 (.array (.int)) true := ⟨RX5, TX5, 9, tyX5, cls_5, by decide, (aw_t1 230 rfl rfl), rfl, rfl, rfl, rfl⟩
set_option maxRecDepth 100000 in
theorem fl_RX5_17 : FL RX5 17 5 1 3 (.array (.object "OrderedWorks$Request")) true := ⟨RX5, TX5, 9, tyX5, cls_5, by decide, (aw_t1 231 rfl rfl), rfl, rfl, rfl, rfl⟩
set_option maxRecDepth 100000 in
theorem fl_RX5_27 : FL RX5 27 5 7 3 (.array (.long)) true := ⟨RX5, TX5, 9, tyX5, cls_5, by decide, (aw_t2 3 rfl rfl), rfl, rfl, rfl, rfl⟩
set_option maxRecDepth 100000 in
theorem fl_RX5_33 : FL RX5 33 5 8 3 (.array (.object "OrderedWorks$Log")) true := ⟨RX5, TX5, 9, tyX5, cls_5, by decide, (aw_t2 5 rfl rfl), rfl, rfl, rfl, rfl⟩
set_option maxRecDepth 100000 in
theorem fl_RX5_38 : FL RX5 38 5 2 0 (.int) false := ⟨RX5, TX5, 9, tyX5, cls_5, by decide, (aw_t1 232 rfl rfl), rfl, rfl, rfl, rfl⟩
set_option maxRecDepth 100000 in
theorem fl_RX5_42 : FL RX5 42 5 3 0 (.int) false := ⟨RX5, TX5, 9, tyX5, cls_5, by decide, (aw_t1 235 rfl rfl), rfl, rfl, rfl, rfl⟩
set_option maxRecDepth 100000 in
theorem fl_RX5_45 : FL RX5 45 5 4 0 (.int) false := ⟨RX5, TX5, 9, tyX5, cls_5, by decide, (aw_t1 237 rfl rfl), rfl, rfl, rfl, rfl⟩
set_option maxRecDepth 100000 in
theorem fl_RX5_48 : FL RX5 48 5 5 0 (.int) false := ⟨RX5, TX5, 9, tyX5, cls_5, by decide, (aw_t1 239 rfl rfl), rfl, rfl, rfl, rfl⟩
set_option maxRecDepth 100000 in
theorem fl_RX5_51 : FL RX5 51 5 6 0 (.int) false := ⟨RX5, TX5, 9, tyX5, cls_5, by decide, (aw_t2 1 rfl rfl), rfl, rfl, rfl, rfl⟩
set_option maxRecDepth 100000 in
theorem fl_RX5_58 : FL RX5 58 3 2 0 (.int) false := ⟨RX3, TX3, 12, tyX3, cls_3, by decide, (aw_t1 82 rfl rfl), rfl, rfl, rfl, rfl⟩
set_option maxRecDepth 100000 in
theorem fl_RX5_63 : FL RX5 63 3 5 2 (.long) false := ⟨RX3, TX3, 12, tyX3, cls_3, by decide, (aw_t1 93 rfl rfl), rfl, rfl, rfl, rfl⟩
set_option maxRecDepth 100000 in
theorem fl_RX5_67 : FL RX5 67 3 11 3 (.object "OrderedWorks$Log") true := ⟨RX3, TX3, 12, tyX3, cls_3, by decide, (aw_t1 115 rfl rfl), rfl, rfl, rfl, rfl⟩
set_option maxRecDepth 100000 in
theorem fl_RX6_7 : FL RX6 7 6 0 3 (.object "OrderedWorks$Request") false := ⟨RX6, TX6, 6, tyX6, cls_6, by decide, (aw_t2 97 rfl rfl), rfl, rfl, rfl, rfl⟩
set_option maxRecDepth 100000 in
theorem fl_RX6_13 : FL RX6 13 6 1 2 (.long) false := ⟨RX6, TX6, 6, tyX6, cls_6, by decide, (aw_t2 99 rfl rfl), rfl, rfl, rfl, rfl⟩
set_option maxRecDepth 100000 in
theorem fl_RX6_17 : FL RX6 17 6 2 0 (.int) false := ⟨RX6, TX6, 6, tyX6, cls_6, by decide, (aw_t2 102 rfl rfl), rfl, rfl, rfl, rfl⟩
set_option maxRecDepth 100000 in
theorem fl_RX6_21 : FL RX6 21 6 3 0 (.int) false := ⟨RX6, TX6, 6, tyX6, cls_6, by decide, (aw_t2 106 rfl rfl), rfl, rfl, rfl, rfl⟩
set_option maxRecDepth 100000 in
theorem fl_RX6_24 : FL RX6 24 6 4 0 (.int) false := ⟨RX6, TX6, 6, tyX6, cls_6, by decide, (aw_t2 108 rfl rfl), rfl, rfl, rfl, rfl⟩
set_option maxRecDepth 100000 in
theorem fl_RX7_9 : FL RX7 9 7 1 3 (.array (.int)) true := ⟨RX7, TX7, 6, tyX7, cls_7, by decide, (aw_t2 183 rfl rfl), rfl, rfl, rfl, rfl⟩
set_option maxRecDepth 100000 in
theorem fl_RX7_15 : FL RX7 15 7 4 0 (.int) false := ⟨RX7, TX7, 6, tyX7, cls_7, by decide, (aw_t2 188 rfl rfl), rfl, rfl, rfl, rfl⟩
set_option maxRecDepth 100000 in
theorem fl_RX7_19 : FL RX7 19 7 0 3 (.object "OrderedWorks$Bytes") true := ⟨RX7, TX7, 6, tyX7, cls_7, by decide, (aw_t2 182 rfl rfl), rfl, rfl, rfl, rfl⟩
set_option maxRecDepth 100000 in
theorem fl_RX7_23 : FL RX7 23 7 2 0 (.int) false := ⟨RX7, TX7, 6, tyX7, cls_7, by decide, (aw_t2 184 rfl rfl), rfl, rfl, rfl, rfl⟩
set_option maxRecDepth 100000 in
theorem fl_RX7_26 : FL RX7 26 7 3 0 (.int) false := ⟨RX7, TX7, 6, tyX7, cls_7, by decide, (aw_t2 186 rfl rfl), rfl, rfl, rfl, rfl⟩
set_option maxRecDepth 100000 in
theorem fl_RX7_29 : FL RX7 29 7 5 0 (.int) false := ⟨RX7, TX7, 6, tyX7, cls_7, by decide, (aw_t2 190 rfl rfl), rfl, rfl, rfl, rfl⟩
set_option maxRecDepth 100000 in
theorem fl_RX7_49 : FL RX7 49 0 1 0 (.int) false := ⟨RX0, TX0, 2, tyX0, cls_0, by decide, (aw_t2 168 rfl rfl), rfl, rfl, rfl, rfl⟩
set_option maxRecDepth 100000 in
theorem fl_RX8_13 : FL RX8 13 8 5 2 (.long) false := ⟨RX8, TX8, 16, tyX8, cls_8, by decide, (aw_t2 33 rfl rfl), rfl, rfl, rfl, rfl⟩
set_option maxRecDepth 100000 in
theorem fl_RX8_19 : FL RX8 19 8 6 2 (.long) false := ⟨RX8, TX8, 16, tyX8, cls_8, by decide, (aw_t2 35 rfl rfl), rfl, rfl, rfl, rfl⟩
set_option maxRecDepth 100000 in
theorem fl_RX8_25 : FL RX8 25 8 7 3 (.object "OrderedWorks$Log") true := ⟨RX8, TX8, 16, tyX8, cls_8, by decide, (aw_t2 37 rfl rfl), rfl, rfl, rfl, rfl⟩
set_option maxRecDepth 100000 in
theorem fl_RX8_29 : FL RX8 29 8 0 0 (.int) true := ⟨RX8, TX8, 16, tyX8, cls_8, by decide, (aw_t2 27 rfl rfl), rfl, rfl, rfl, rfl⟩
set_option maxRecDepth 100000 in
theorem fl_RX8_33 : FL RX8 33 8 1 3 (.object "OrderedWorks$Net") true := ⟨RX8, TX8, 16, tyX8, cls_8, by decide, (aw_t2 28 rfl rfl), rfl, rfl, rfl, rfl⟩
set_option maxRecDepth 100000 in
theorem fl_RX8_37 : FL RX8 37 8 2 3 (.object "OrderedWorks$Table") true := ⟨RX8, TX8, 16, tyX8, cls_8, by decide, (aw_t2 29 rfl rfl), rfl, rfl, rfl, rfl⟩
set_option maxRecDepth 100000 in
theorem fl_RX8_43 : FL RX8 43 4 0 0 (.int) true := ⟨RX4, TX4, 9, tyX4, cls_4, by decide, (aw_t1 143 rfl rfl), rfl, rfl, rfl, rfl⟩
set_option maxRecDepth 100000 in
theorem fl_RX8_51 : FL RX8 51 8 10 3 (.object "OrderedWorks$Pending") true := ⟨RX8, TX8, 16, tyX8, cls_8, by decide, (aw_t2 43 rfl rfl), rfl, rfl, rfl, rfl⟩
set_option maxRecDepth 100000 in
theorem fl_RX8_63 : FL RX8 63 8 4 0 (.int) false := ⟨RX8, TX8, 16, tyX8, cls_8, by decide, (aw_t2 31 rfl rfl), rfl, rfl, rfl, rfl⟩
set_option maxRecDepth 100000 in
theorem fl_RX8_66 : FL RX8 66 2 1 0 (.int) false := ⟨RX2, TX2, 3, tyX2, cls_2, by decide, (aw_t1 59 rfl rfl), rfl, rfl, rfl, rfl⟩
set_option maxRecDepth 100000 in
theorem fl_RX8_69 : FL RX8 69 8 8 0 (.int) false := ⟨RX8, TX8, 16, tyX8, cls_8, by decide, (aw_t2 39 rfl rfl), rfl, rfl, rfl, rfl⟩
set_option maxRecDepth 100000 in
theorem fl_RX8_78 : FL RX8 78 3 1 0 (.int) false := ⟨RX3, TX3, 12, tyX3, cls_3, by decide, (aw_t1 75 rfl rfl), rfl, rfl, rfl, rfl⟩
set_option maxRecDepth 100000 in
theorem fl_RX8_83 : FL RX8 83 3 4 2 (.long) false := ⟨RX3, TX3, 12, tyX3, cls_3, by decide, (aw_t1 89 rfl rfl), rfl, rfl, rfl, rfl⟩
set_option maxRecDepth 100000 in
theorem fl_RX8_84 : FL RX8 84 3 2 0 (.int) false := ⟨RX3, TX3, 12, tyX3, cls_3, by decide, (aw_t1 80 rfl rfl), rfl, rfl, rfl, rfl⟩
set_option maxRecDepth 100000 in
theorem fl_RX8_87 : FL RX8 87 4 8 0 (.int) false := ⟨RX4, TX4, 9, tyX4, cls_4, by decide, (aw_t1 156 rfl rfl), rfl, rfl, rfl, rfl⟩
set_option maxRecDepth 100000 in
theorem fl_RX8_90 : FL RX8 90 8 11 0 (.int) false := ⟨RX8, TX8, 16, tyX8, cls_8, by decide, (aw_t2 45 rfl rfl), rfl, rfl, rfl, rfl⟩
set_option maxRecDepth 100000 in
theorem fl_RX8_107 : FL RX8 107 3 6 0 (.int) false := ⟨RX3, TX3, 12, tyX3, cls_3, by decide, (aw_t1 97 rfl rfl), rfl, rfl, rfl, rfl⟩
set_option maxRecDepth 100000 in
theorem fl_RX8_116 : FL RX8 116 3 11 3 (.object "OrderedWorks$Log") true := ⟨RX3, TX3, 12, tyX3, cls_3, by decide, (aw_t1 114 rfl rfl), rfl, rfl, rfl, rfl⟩
set_option maxRecDepth 100000 in
theorem fl_RX8_142 : FL RX8 142 2 2 0 (.int) false := ⟨RX2, TX2, 3, tyX2, cls_2, by decide, (aw_t1 62 rfl rfl), rfl, rfl, rfl, rfl⟩
set_option maxRecDepth 100000 in
theorem fl_RX8_145 : FL RX8 145 5 2 0 (.int) false := ⟨RX5, TX5, 9, tyX5, cls_5, by decide, (aw_t1 233 rfl rfl), rfl, rfl, rfl, rfl⟩
set_option maxRecDepth 100000 in
theorem fl_RX8_152 : FL RX8 152 3 7 3 (.object "OrderedWorks$Request") false := ⟨RX3, TX3, 12, tyX3, cls_3, by decide, (aw_t1 101 rfl rfl), rfl, rfl, rfl, rfl⟩
set_option maxRecDepth 100000 in
theorem fl_RX8_188 : FL RX8 188 5 3 0 (.int) false := ⟨RX5, TX5, 9, tyX5, cls_5, by decide, (aw_t1 236 rfl rfl), rfl, rfl, rfl, rfl⟩
set_option maxRecDepth 100000 in
theorem fl_RX8_196 : FL RX8 196 4 1 0 (.int) true := ⟨RX4, TX4, 9, tyX4, cls_4, by decide, (aw_t1 146 rfl rfl), rfl, rfl, rfl, rfl⟩
set_option maxRecDepth 100000 in
theorem fl_RX8_202 : FL RX8 202 8 9 0 (.int) false := ⟨RX8, TX8, 16, tyX8, cls_8, by decide, (aw_t2 41 rfl rfl), rfl, rfl, rfl, rfl⟩
set_option maxRecDepth 100000 in
theorem fl_RX8_208 : FL RX8 208 5 5 0 (.int) false := ⟨RX5, TX5, 9, tyX5, cls_5, by decide, (aw_t2 0 rfl rfl), rfl, rfl, rfl, rfl⟩
set_option maxRecDepth 100000 in
theorem fl_RX8_211 : FL RX8 211 5 4 0 (.int) false := ⟨RX5, TX5, 9, tyX5, cls_5, by decide, (aw_t1 238 rfl rfl), rfl, rfl, rfl, rfl⟩
set_option maxRecDepth 100000 in
theorem fl_RX8_224 : FL RX8 224 5 6 0 (.int) false := ⟨RX5, TX5, 9, tyX5, cls_5, by decide, (aw_t2 2 rfl rfl), rfl, rfl, rfl, rfl⟩
set_option maxRecDepth 100000 in
theorem fl_RX8_241 : FL RX8 241 8 12 0 (.int) false := ⟨RX8, TX8, 16, tyX8, cls_8, by decide, (aw_t2 47 rfl rfl), rfl, rfl, rfl, rfl⟩
set_option maxRecDepth 100000 in
theorem fl_RX8_250 : FL RX8 250 10 1 3 (.array (.int)) true := ⟨RX10, TX10, 5, tyX10, cls_10, by decide, (aw_t1 186 rfl rfl), rfl, rfl, rfl, rfl⟩
set_option maxRecDepth 100000 in
theorem fl_RX8_254 : FL RX8 254 9 0 0 (.int) true := ⟨RX9, TX9, 5, tyX9, cls_9, by decide, (aw_t4 92 rfl rfl), rfl, rfl, rfl, rfl⟩
set_option maxRecDepth 100000 in
theorem fl_RX8_259 : FL RX8 259 9 1 0 (.int) true := ⟨RX9, TX9, 5, tyX9, cls_9, by decide, (aw_t4 98 rfl rfl), rfl, rfl, rfl, rfl⟩
set_option maxRecDepth 100000 in
theorem fl_RX8_260 : FL RX8 260 3 8 0 (.int) false := ⟨RX3, TX3, 12, tyX3, cls_3, by decide, (aw_t1 105 rfl rfl), rfl, rfl, rfl, rfl⟩
set_option maxRecDepth 100000 in
theorem fl_RX8_263 : FL RX8 263 3 9 1 (.boolean) false := ⟨RX3, TX3, 12, tyX3, cls_3, by decide, (aw_t1 109 rfl rfl), rfl, rfl, rfl, rfl⟩
set_option maxRecDepth 100000 in
theorem fl_RX8_267 : FL RX8 267 10 2 3 (.array (.int)) true := ⟨RX10, TX10, 5, tyX10, cls_10, by decide, (aw_t1 188 rfl rfl), rfl, rfl, rfl, rfl⟩
set_option maxRecDepth 100000 in
theorem fl_RX8_270 : FL RX8 270 3 10 0 (.int) false := ⟨RX3, TX3, 12, tyX3, cls_3, by decide, (aw_t1 112 rfl rfl), rfl, rfl, rfl, rfl⟩
set_option maxRecDepth 100000 in
theorem fl_RX8_276 : FL RX8 276 8 13 0 (.int) false := ⟨RX8, TX8, 16, tyX8, cls_8, by decide, (aw_t2 48 rfl rfl), rfl, rfl, rfl, rfl⟩
set_option maxRecDepth 100000 in
theorem fl_RX8_282 : FL RX8 282 3 5 2 (.long) false := ⟨RX3, TX3, 12, tyX3, cls_3, by decide, (aw_t1 94 rfl rfl), rfl, rfl, rfl, rfl⟩
set_option maxRecDepth 100000 in
theorem fl_RX8_283 : FL RX8 283 5 7 3 (.array (.long)) true := ⟨RX5, TX5, 9, tyX5, cls_5, by decide, (aw_t2 4 rfl rfl), rfl, rfl, rfl, rfl⟩
set_option maxRecDepth 100000 in
theorem fl_RX8_294 : FL RX8 294 5 8 3 (.array (.object "OrderedWorks$Log")) true := ⟨RX5, TX5, 9, tyX5, cls_5, by decide, (aw_t2 6 rfl rfl), rfl, rfl, rfl, rfl⟩
set_option maxRecDepth 100000 in
theorem fl_RX8_298 : FL RX8 298 2 0 3 (.array (.object "OrderedWorks$Request")) true := ⟨RX2, TX2, 3, tyX2, cls_2, by decide, (aw_t1 56 rfl rfl), rfl, rfl, rfl, rfl⟩
set_option maxRecDepth 100000 in
theorem fl_RX8_309 : FL RX8 309 8 15 0 (.int) false := ⟨RX8, TX8, 16, tyX8, cls_8, by decide, (aw_t2 50 rfl rfl), rfl, rfl, rfl, rfl⟩
set_option maxRecDepth 100000 in
theorem fl_RX8_318 : FL RX8 318 8 14 0 (.int) false := ⟨RX8, TX8, 16, tyX8, cls_8, by decide, (aw_t2 49 rfl rfl), rfl, rfl, rfl, rfl⟩
set_option maxRecDepth 100000 in
theorem fl_RX9_7 : FL RX9 7 9 0 0 (.int) true := ⟨RX9, TX9, 5, tyX9, cls_9, by decide, (aw_t4 89 rfl rfl), rfl, rfl, rfl, rfl⟩
set_option maxRecDepth 100000 in
theorem fl_RX9_13 : FL RX9 13 9 1 0 (.int) true := ⟨RX9, TX9, 5, tyX9, cls_9, by decide, (aw_t4 94 rfl rfl), rfl, rfl, rfl, rfl⟩
set_option maxRecDepth 100000 in
theorem fl_RX9_16 : FL RX9 16 9 2 0 (.int) true := ⟨RX9, TX9, 5, tyX9, cls_9, by decide, (aw_t4 100 rfl rfl), rfl, rfl, rfl, rfl⟩
set_option maxRecDepth 100000 in
theorem fl_RX9_19 : FL RX9 19 9 3 0 (.int) true := ⟨RX9, TX9, 5, tyX9, cls_9, by decide, (aw_t4 104 rfl rfl), rfl, rfl, rfl, rfl⟩
set_option maxRecDepth 100000 in
theorem fl_RX9_22 : FL RX9 22 9 4 0 (.int) true := ⟨RX9, TX9, 5, tyX9, cls_9, by decide, (aw_t4 108 rfl rfl), rfl, rfl, rfl, rfl⟩
set_option maxRecDepth 100000 in
theorem fl_RX10_9 : FL RX10 9 10 0 3 (.array (.int)) true := ⟨RX10, TX10, 5, tyX10, cls_10, by decide, (aw_t1 183 rfl rfl), rfl, rfl, rfl, rfl⟩
set_option maxRecDepth 100000 in
theorem fl_RX10_15 : FL RX10 15 10 1 3 (.array (.int)) true := ⟨RX10, TX10, 5, tyX10, cls_10, by decide, (aw_t1 185 rfl rfl), rfl, rfl, rfl, rfl⟩
set_option maxRecDepth 100000 in
theorem fl_RX10_18 : FL RX10 18 10 2 3 (.array (.int)) true := ⟨RX10, TX10, 5, tyX10, cls_10, by decide, (aw_t1 187 rfl rfl), rfl, rfl, rfl, rfl⟩
set_option maxRecDepth 100000 in
theorem fl_RX10_21 : FL RX10 21 10 3 3 (.array (.boolean)) true := ⟨RX10, TX10, 5, tyX10, cls_10, by decide, (aw_t1 189 rfl rfl), rfl, rfl, rfl, rfl⟩
set_option maxRecDepth 100000 in
theorem fl_RX10_25 : FL RX10 25 10 4 3 (.array (.int)) true := ⟨RX10, TX10, 5, tyX10, cls_10, by decide, (aw_t1 190 rfl rfl), rfl, rfl, rfl, rfl⟩
set_option maxRecDepth 100000 in
theorem fl_RX10_28 : FL RX10 28 2 1 0 (.int) false := ⟨RX2, TX2, 3, tyX2, cls_2, by decide, (aw_t1 58 rfl rfl), rfl, rfl, rfl, rfl⟩
set_option maxRecDepth 100000 in
theorem fl_RX10_34 : FL RX10 34 2 0 3 (.array (.object "OrderedWorks$Request")) true := ⟨RX2, TX2, 3, tyX2, cls_2, by decide, (aw_t1 55 rfl rfl), rfl, rfl, rfl, rfl⟩
set_option maxRecDepth 100000 in
theorem fl_RX10_38 : FL RX10 38 9 1 0 (.int) true := ⟨RX9, TX9, 5, tyX9, cls_9, by decide, (aw_t4 96 rfl rfl), rfl, rfl, rfl, rfl⟩
set_option maxRecDepth 100000 in
theorem fl_RX10_43 : FL RX10 43 9 0 0 (.int) true := ⟨RX9, TX9, 5, tyX9, cls_9, by decide, (aw_t4 90 rfl rfl), rfl, rfl, rfl, rfl⟩
set_option maxRecDepth 100000 in
theorem fl_RX10_46 : FL RX10 46 9 3 0 (.int) true := ⟨RX9, TX9, 5, tyX9, cls_9, by decide, (aw_t4 105 rfl rfl), rfl, rfl, rfl, rfl⟩
set_option maxRecDepth 100000 in
theorem fl_RX10_49 : FL RX10 49 9 2 0 (.int) true := ⟨RX9, TX9, 5, tyX9, cls_9, by decide, (aw_t4 101 rfl rfl), rfl, rfl, rfl, rfl⟩
set_option maxRecDepth 100000 in
theorem fl_RX10_52 : FL RX10 52 9 4 0 (.int) true := ⟨RX9, TX9, 5, tyX9, cls_9, by decide, (aw_t4 109 rfl rfl), rfl, rfl, rfl, rfl⟩
set_option maxRecDepth 100000 in
theorem fl_RX10_55 : FL RX10 55 6 2 0 (.int) false := ⟨RX6, TX6, 6, tyX6, cls_6, by decide, (aw_t2 103 rfl rfl), rfl, rfl, rfl, rfl⟩
set_option maxRecDepth 100000 in
theorem fl_RX10_64 : FL RX10 64 6 0 3 (.object "OrderedWorks$Request") false := ⟨RX6, TX6, 6, tyX6, cls_6, by decide, (aw_t2 98 rfl rfl), rfl, rfl, rfl, rfl⟩
set_option maxRecDepth 100000 in
theorem fl_RX10_72 : FL RX10 72 6 4 0 (.int) false := ⟨RX6, TX6, 6, tyX6, cls_6, by decide, (aw_t2 110 rfl rfl), rfl, rfl, rfl, rfl⟩
set_option maxRecDepth 100000 in
theorem fl_RX12_9 : FL RX12 9 12 5 3 (.array (.int)) true := ⟨RX12, TX12, 99, tyX12, cls_12, by decide, (aw_t6 63 rfl rfl), rfl, rfl, rfl, rfl⟩
set_option maxRecDepth 100000 in
theorem fl_RX12_13 : FL RX12 13 12 9 3 (.array (.boolean)) true := ⟨RX12, TX12, 99, tyX12, cls_12, by decide, (aw_t6 67 rfl rfl), rfl, rfl, rfl, rfl⟩
set_option maxRecDepth 100000 in
theorem fl_RX12_18 : FL RX12 18 12 10 3 (.array (.int)) true := ⟨RX12, TX12, 99, tyX12, cls_12, by decide, (aw_t6 68 rfl rfl), rfl, rfl, rfl, rfl⟩
set_option maxRecDepth 100000 in
theorem fl_RX12_21 : FL RX12 21 12 11 3 (.array (.int)) true := ⟨RX12, TX12, 99, tyX12, cls_12, by decide, (aw_t6 69 rfl rfl), rfl, rfl, rfl, rfl⟩
set_option maxRecDepth 100000 in
theorem fl_RX12_24 : FL RX12 24 12 12 3 (.array (.int)) true := ⟨RX12, TX12, 99, tyX12, cls_12, by decide, (aw_t6 70 rfl rfl), rfl, rfl, rfl, rfl⟩
set_option maxRecDepth 100000 in
theorem fl_RX12_27 : FL RX12 27 12 13 3 (.array (.int)) true := ⟨RX12, TX12, 99, tyX12, cls_12, by decide, (aw_t6 71 rfl rfl), rfl, rfl, rfl, rfl⟩
set_option maxRecDepth 100000 in
theorem fl_RX12_30 : FL RX12 30 12 15 3 (.array (.int)) true := ⟨RX12, TX12, 99, tyX12, cls_12, by decide, (aw_t6 73 rfl rfl), rfl, rfl, rfl, rfl⟩
set_option maxRecDepth 100000 in
theorem fl_RX12_33 : FL RX12 33 12 16 1 (.boolean) false := ⟨RX12, TX12, 99, tyX12, cls_12, by decide, (aw_t6 74 rfl rfl), rfl, rfl, rfl, rfl⟩
set_option maxRecDepth 100000 in
theorem fl_RX12_37 : FL RX12 37 12 17 0 (.int) false := ⟨RX12, TX12, 99, tyX12, cls_12, by decide, (aw_t6 75 rfl rfl), rfl, rfl, rfl, rfl⟩
set_option maxRecDepth 100000 in
theorem fl_RX12_41 : FL RX12 41 12 20 3 (.array (.boolean)) true := ⟨RX12, TX12, 99, tyX12, cls_12, by decide, (aw_t6 78 rfl rfl), rfl, rfl, rfl, rfl⟩
set_option maxRecDepth 100000 in
theorem fl_RX12_44 : FL RX12 44 12 21 3 (.array (.int)) true := ⟨RX12, TX12, 99, tyX12, cls_12, by decide, (aw_t6 79 rfl rfl), rfl, rfl, rfl, rfl⟩
set_option maxRecDepth 100000 in
theorem fl_RX12_47 : FL RX12 47 12 22 3 (.array (.int)) true := ⟨RX12, TX12, 99, tyX12, cls_12, by decide, (aw_t6 80 rfl rfl), rfl, rfl, rfl, rfl⟩
set_option maxRecDepth 100000 in
theorem fl_RX12_50 : FL RX12 50 12 23 3 (.array (.int)) true := ⟨RX12, TX12, 99, tyX12, cls_12, by decide, (aw_t6 81 rfl rfl), rfl, rfl, rfl, rfl⟩
set_option maxRecDepth 100000 in
theorem fl_RX12_53 : FL RX12 53 12 24 3 (.array (.int)) true := ⟨RX12, TX12, 99, tyX12, cls_12, by decide, (aw_t6 82 rfl rfl), rfl, rfl, rfl, rfl⟩
set_option maxRecDepth 100000 in
theorem fl_RX12_56 : FL RX12 56 12 25 3 (.array (.int)) true := ⟨RX12, TX12, 99, tyX12, cls_12, by decide, (aw_t6 83 rfl rfl), rfl, rfl, rfl, rfl⟩
set_option maxRecDepth 100000 in
theorem fl_RX12_59 : FL RX12 59 12 26 3 (.array (.int)) true := ⟨RX12, TX12, 99, tyX12, cls_12, by decide, (aw_t6 84 rfl rfl), rfl, rfl, rfl, rfl⟩
set_option maxRecDepth 100000 in
theorem fl_RX12_62 : FL RX12 62 12 27 3 (.array (.int)) true := ⟨RX12, TX12, 99, tyX12, cls_12, by decide, (aw_t6 85 rfl rfl), rfl, rfl, rfl, rfl⟩
set_option maxRecDepth 100000 in
theorem fl_RX12_65 : FL RX12 65 12 28 3 (.array (.int)) true := ⟨RX12, TX12, 99, tyX12, cls_12, by decide, (aw_t6 86 rfl rfl), rfl, rfl, rfl, rfl⟩
set_option maxRecDepth 100000 in
theorem fl_RX12_68 : FL RX12 68 12 29 3 (.array (.int)) true := ⟨RX12, TX12, 99, tyX12, cls_12, by decide, (aw_t6 87 rfl rfl), rfl, rfl, rfl, rfl⟩
set_option maxRecDepth 100000 in
theorem fl_RX12_71 : FL RX12 71 12 30 3 (.array (.boolean)) true := ⟨RX12, TX12, 99, tyX12, cls_12, by decide, (aw_t6 88 rfl rfl), rfl, rfl, rfl, rfl⟩
set_option maxRecDepth 100000 in
theorem fl_RX12_74 : FL RX12 74 12 31 3 (.array (.int)) true := ⟨RX12, TX12, 99, tyX12, cls_12, by decide, (aw_t6 89 rfl rfl), rfl, rfl, rfl, rfl⟩
set_option maxRecDepth 100000 in
theorem fl_RX12_77 : FL RX12 77 12 32 3 (.array (.int)) true := ⟨RX12, TX12, 99, tyX12, cls_12, by decide, (aw_t6 90 rfl rfl), rfl, rfl, rfl, rfl⟩
set_option maxRecDepth 100000 in
theorem fl_RX12_80 : FL RX12 80 12 33 3 (.array (.int)) true := ⟨RX12, TX12, 99, tyX12, cls_12, by decide, (aw_t6 91 rfl rfl), rfl, rfl, rfl, rfl⟩
set_option maxRecDepth 100000 in
theorem fl_RX12_83 : FL RX12 83 12 34 3 (.array (.int)) true := ⟨RX12, TX12, 99, tyX12, cls_12, by decide, (aw_t6 92 rfl rfl), rfl, rfl, rfl, rfl⟩
set_option maxRecDepth 100000 in
theorem fl_RX12_86 : FL RX12 86 12 35 3 (.array (.int)) true := ⟨RX12, TX12, 99, tyX12, cls_12, by decide, (aw_t6 93 rfl rfl), rfl, rfl, rfl, rfl⟩
set_option maxRecDepth 100000 in
theorem fl_RX12_89 : FL RX12 89 12 36 3 (.array (.int)) true := ⟨RX12, TX12, 99, tyX12, cls_12, by decide, (aw_t6 94 rfl rfl), rfl, rfl, rfl, rfl⟩
set_option maxRecDepth 100000 in
theorem fl_RX12_92 : FL RX12 92 12 37 3 (.array (.int)) true := ⟨RX12, TX12, 99, tyX12, cls_12, by decide, (aw_t6 95 rfl rfl), rfl, rfl, rfl, rfl⟩
set_option maxRecDepth 100000 in
theorem fl_RX12_95 : FL RX12 95 12 38 3 (.array (.int)) true := ⟨RX12, TX12, 99, tyX12, cls_12, by decide, (aw_t6 96 rfl rfl), rfl, rfl, rfl, rfl⟩
set_option maxRecDepth 100000 in
theorem fl_RX12_98 : FL RX12 98 12 39 3 (.array (.int)) true := ⟨RX12, TX12, 99, tyX12, cls_12, by decide, (aw_t6 97 rfl rfl), rfl, rfl, rfl, rfl⟩
set_option maxRecDepth 100000 in
theorem fl_RX12_101 : FL RX12 101 12 40 3 (.array (.int)) true := ⟨RX12, TX12, 99, tyX12, cls_12, by decide, (aw_t6 98 rfl rfl), rfl, rfl, rfl, rfl⟩
set_option maxRecDepth 100000 in
theorem fl_RX12_104 : FL RX12 104 12 41 3 (.array (.int)) true := ⟨RX12, TX12, 99, tyX12, cls_12, by decide, (aw_t6 99 rfl rfl), rfl, rfl, rfl, rfl⟩
set_option maxRecDepth 100000 in
theorem fl_RX12_107 : FL RX12 107 12 42 3 (.array (.int)) true := ⟨RX12, TX12, 99, tyX12, cls_12, by decide, (aw_t6 100 rfl rfl), rfl, rfl, rfl, rfl⟩
set_option maxRecDepth 100000 in
theorem fl_RX12_110 : FL RX12 110 12 43 3 (.array (.int)) true := ⟨RX12, TX12, 99, tyX12, cls_12, by decide, (aw_t6 101 rfl rfl), rfl, rfl, rfl, rfl⟩
set_option maxRecDepth 100000 in
theorem fl_RX12_113 : FL RX12 113 12 44 3 (.array (.int)) true := ⟨RX12, TX12, 99, tyX12, cls_12, by decide, (aw_t6 102 rfl rfl), rfl, rfl, rfl, rfl⟩
set_option maxRecDepth 100000 in
theorem fl_RX12_116 : FL RX12 116 12 45 3 (.array (.int)) true := ⟨RX12, TX12, 99, tyX12, cls_12, by decide, (aw_t6 103 rfl rfl), rfl, rfl, rfl, rfl⟩
set_option maxRecDepth 100000 in
theorem fl_RX12_119 : FL RX12 119 12 46 3 (.array (.int)) true := ⟨RX12, TX12, 99, tyX12, cls_12, by decide, (aw_t6 104 rfl rfl), rfl, rfl, rfl, rfl⟩
set_option maxRecDepth 100000 in
theorem fl_RX12_122 : FL RX12 122 12 47 3 (.array (.int)) true := ⟨RX12, TX12, 99, tyX12, cls_12, by decide, (aw_t6 105 rfl rfl), rfl, rfl, rfl, rfl⟩
set_option maxRecDepth 100000 in
theorem fl_RX12_125 : FL RX12 125 12 48 3 (.array (.int)) true := ⟨RX12, TX12, 99, tyX12, cls_12, by decide, (aw_t6 106 rfl rfl), rfl, rfl, rfl, rfl⟩
set_option maxRecDepth 100000 in
theorem fl_RX12_128 : FL RX12 128 12 49 3 (.array (.int)) true := ⟨RX12, TX12, 99, tyX12, cls_12, by decide, (aw_t6 107 rfl rfl), rfl, rfl, rfl, rfl⟩
set_option maxRecDepth 100000 in
theorem fl_RX12_131 : FL RX12 131 12 50 3 (.array (.int)) true := ⟨RX12, TX12, 99, tyX12, cls_12, by decide, (aw_t6 108 rfl rfl), rfl, rfl, rfl, rfl⟩
set_option maxRecDepth 100000 in
theorem fl_RX12_134 : FL RX12 134 12 51 3 (.array (.boolean)) true := ⟨RX12, TX12, 99, tyX12, cls_12, by decide, (aw_t6 109 rfl rfl), rfl, rfl, rfl, rfl⟩
set_option maxRecDepth 100000 in
theorem fl_RX12_137 : FL RX12 137 12 52 3 (.array (.int)) true := ⟨RX12, TX12, 99, tyX12, cls_12, by decide, (aw_t6 110 rfl rfl), rfl, rfl, rfl, rfl⟩
set_option maxRecDepth 100000 in
theorem fl_RX12_140 : FL RX12 140 12 53 3 (.array (.int)) true := ⟨RX12, TX12, 99, tyX12, cls_12, by decide, (aw_t6 111 rfl rfl), rfl, rfl, rfl, rfl⟩
set_option maxRecDepth 100000 in
theorem fl_RX12_143 : FL RX12 143 12 54 3 (.array (.int)) true := ⟨RX12, TX12, 99, tyX12, cls_12, by decide, (aw_t6 112 rfl rfl), rfl, rfl, rfl, rfl⟩
set_option maxRecDepth 100000 in
theorem fl_RX12_146 : FL RX12 146 12 55 3 (.array (.int)) true := ⟨RX12, TX12, 99, tyX12, cls_12, by decide, (aw_t6 113 rfl rfl), rfl, rfl, rfl, rfl⟩
set_option maxRecDepth 100000 in
theorem fl_RX12_149 : FL RX12 149 12 56 3 (.array (.int)) true := ⟨RX12, TX12, 99, tyX12, cls_12, by decide, (aw_t6 114 rfl rfl), rfl, rfl, rfl, rfl⟩
set_option maxRecDepth 100000 in
theorem fl_RX12_152 : FL RX12 152 12 57 3 (.array (.int)) true := ⟨RX12, TX12, 99, tyX12, cls_12, by decide, (aw_t6 115 rfl rfl), rfl, rfl, rfl, rfl⟩
set_option maxRecDepth 100000 in
theorem fl_RX12_155 : FL RX12 155 12 58 3 (.array (.int)) true := ⟨RX12, TX12, 99, tyX12, cls_12, by decide, (aw_t6 116 rfl rfl), rfl, rfl, rfl, rfl⟩
set_option maxRecDepth 100000 in
theorem fl_RX12_158 : FL RX12 158 12 59 3 (.array (.int)) true := ⟨RX12, TX12, 99, tyX12, cls_12, by decide, (aw_t6 117 rfl rfl), rfl, rfl, rfl, rfl⟩
set_option maxRecDepth 100000 in
theorem fl_RX12_161 : FL RX12 161 12 60 3 (.array (.int)) true := ⟨RX12, TX12, 99, tyX12, cls_12, by decide, (aw_t6 118 rfl rfl), rfl, rfl, rfl, rfl⟩
set_option maxRecDepth 100000 in
theorem fl_RX12_164 : FL RX12 164 12 61 3 (.array (.int)) true := ⟨RX12, TX12, 99, tyX12, cls_12, by decide, (aw_t6 119 rfl rfl), rfl, rfl, rfl, rfl⟩
set_option maxRecDepth 100000 in
theorem fl_RX12_167 : FL RX12 167 12 62 3 (.array (.int)) true := ⟨RX12, TX12, 99, tyX12, cls_12, by decide, (aw_t6 120 rfl rfl), rfl, rfl, rfl, rfl⟩
set_option maxRecDepth 100000 in
theorem fl_RX12_170 : FL RX12 170 12 63 3 (.array (.int)) true := ⟨RX12, TX12, 99, tyX12, cls_12, by decide, (aw_t6 121 rfl rfl), rfl, rfl, rfl, rfl⟩
set_option maxRecDepth 100000 in
theorem fl_RX12_173 : FL RX12 173 12 64 3 (.array (.int)) true := ⟨RX12, TX12, 99, tyX12, cls_12, by decide, (aw_t6 122 rfl rfl), rfl, rfl, rfl, rfl⟩
set_option maxRecDepth 100000 in
theorem fl_RX12_176 : FL RX12 176 12 65 3 (.array (.int)) true := ⟨RX12, TX12, 99, tyX12, cls_12, by decide, (aw_t6 123 rfl rfl), rfl, rfl, rfl, rfl⟩
set_option maxRecDepth 100000 in
theorem fl_RX12_179 : FL RX12 179 12 66 3 (.array (.boolean)) true := ⟨RX12, TX12, 99, tyX12, cls_12, by decide, (aw_t6 124 rfl rfl), rfl, rfl, rfl, rfl⟩
set_option maxRecDepth 100000 in
theorem fl_RX12_182 : FL RX12 182 12 67 3 (.array (.int)) true := ⟨RX12, TX12, 99, tyX12, cls_12, by decide, (aw_t6 125 rfl rfl), rfl, rfl, rfl, rfl⟩
set_option maxRecDepth 100000 in
theorem fl_RX12_185 : FL RX12 185 12 68 3 (.array (.int)) true := ⟨RX12, TX12, 99, tyX12, cls_12, by decide, (aw_t6 126 rfl rfl), rfl, rfl, rfl, rfl⟩
set_option maxRecDepth 100000 in
theorem fl_RX12_188 : FL RX12 188 12 69 3 (.array (.int)) true := ⟨RX12, TX12, 99, tyX12, cls_12, by decide, (aw_t6 127 rfl rfl), rfl, rfl, rfl, rfl⟩
set_option maxRecDepth 100000 in
theorem fl_RX12_191 : FL RX12 191 12 70 3 (.array (.int)) true := ⟨RX12, TX12, 99, tyX12, cls_12, by decide, (aw_t6 128 rfl rfl), rfl, rfl, rfl, rfl⟩
set_option maxRecDepth 100000 in
theorem fl_RX12_194 : FL RX12 194 12 71 3 (.array (.int)) true := ⟨RX12, TX12, 99, tyX12, cls_12, by decide, (aw_t6 129 rfl rfl), rfl, rfl, rfl, rfl⟩
set_option maxRecDepth 100000 in
theorem fl_RX12_197 : FL RX12 197 12 72 3 (.array (.int)) true := ⟨RX12, TX12, 99, tyX12, cls_12, by decide, (aw_t6 130 rfl rfl), rfl, rfl, rfl, rfl⟩
set_option maxRecDepth 100000 in
theorem fl_RX12_200 : FL RX12 200 12 73 3 (.array (.int)) true := ⟨RX12, TX12, 99, tyX12, cls_12, by decide, (aw_t6 131 rfl rfl), rfl, rfl, rfl, rfl⟩
set_option maxRecDepth 100000 in
theorem fl_RX12_203 : FL RX12 203 12 74 3 (.array (.int)) true := ⟨RX12, TX12, 99, tyX12, cls_12, by decide, (aw_t6 132 rfl rfl), rfl, rfl, rfl, rfl⟩
set_option maxRecDepth 100000 in
theorem fl_RX12_206 : FL RX12 206 12 75 3 (.array (.int)) true := ⟨RX12, TX12, 99, tyX12, cls_12, by decide, (aw_t6 133 rfl rfl), rfl, rfl, rfl, rfl⟩
set_option maxRecDepth 100000 in
theorem fl_RX12_209 : FL RX12 209 12 76 3 (.array (.int)) true := ⟨RX12, TX12, 99, tyX12, cls_12, by decide, (aw_t6 134 rfl rfl), rfl, rfl, rfl, rfl⟩
set_option maxRecDepth 100000 in
theorem fl_RX12_212 : FL RX12 212 12 77 3 (.array (.int)) true := ⟨RX12, TX12, 99, tyX12, cls_12, by decide, (aw_t6 135 rfl rfl), rfl, rfl, rfl, rfl⟩
set_option maxRecDepth 100000 in
theorem fl_RX12_215 : FL RX12 215 12 78 3 (.array (.int)) true := ⟨RX12, TX12, 99, tyX12, cls_12, by decide, (aw_t6 136 rfl rfl), rfl, rfl, rfl, rfl⟩
set_option maxRecDepth 100000 in
theorem fl_RX12_218 : FL RX12 218 12 79 3 (.array (.int)) true := ⟨RX12, TX12, 99, tyX12, cls_12, by decide, (aw_t6 137 rfl rfl), rfl, rfl, rfl, rfl⟩
set_option maxRecDepth 100000 in
theorem fl_RX12_221 : FL RX12 221 12 80 3 (.array (.int)) true := ⟨RX12, TX12, 99, tyX12, cls_12, by decide, (aw_t6 138 rfl rfl), rfl, rfl, rfl, rfl⟩
set_option maxRecDepth 100000 in
theorem fl_RX12_224 : FL RX12 224 12 82 3 (.array (.int)) true := ⟨RX12, TX12, 99, tyX12, cls_12, by decide, (aw_t6 140 rfl rfl), rfl, rfl, rfl, rfl⟩
set_option maxRecDepth 100000 in
theorem fl_RX12_227 : FL RX12 227 12 83 3 (.array (.int)) true := ⟨RX12, TX12, 99, tyX12, cls_12, by decide, (aw_t6 141 rfl rfl), rfl, rfl, rfl, rfl⟩
set_option maxRecDepth 100000 in
theorem fl_RX12_230 : FL RX12 230 12 84 3 (.array (.int)) true := ⟨RX12, TX12, 99, tyX12, cls_12, by decide, (aw_t6 142 rfl rfl), rfl, rfl, rfl, rfl⟩
set_option maxRecDepth 100000 in
theorem fl_RX12_233 : FL RX12 233 12 85 3 (.array (.int)) true := ⟨RX12, TX12, 99, tyX12, cls_12, by decide, (aw_t6 143 rfl rfl), rfl, rfl, rfl, rfl⟩
set_option maxRecDepth 100000 in
theorem fl_RX12_236 : FL RX12 236 12 86 3 (.array (.int)) true := ⟨RX12, TX12, 99, tyX12, cls_12, by decide, (aw_t6 144 rfl rfl), rfl, rfl, rfl, rfl⟩
set_option maxRecDepth 100000 in
theorem fl_RX12_239 : FL RX12 239 12 87 3 (.array (.int)) true := ⟨RX12, TX12, 99, tyX12, cls_12, by decide, (aw_t6 145 rfl rfl), rfl, rfl, rfl, rfl⟩
set_option maxRecDepth 100000 in
theorem fl_RX12_242 : FL RX12 242 12 88 3 (.array (.int)) true := ⟨RX12, TX12, 99, tyX12, cls_12, by decide, (aw_t6 146 rfl rfl), rfl, rfl, rfl, rfl⟩
set_option maxRecDepth 100000 in
theorem fl_RX12_245 : FL RX12 245 12 90 3 (.array (.int)) true := ⟨RX12, TX12, 99, tyX12, cls_12, by decide, (aw_t6 148 rfl rfl), rfl, rfl, rfl, rfl⟩
set_option maxRecDepth 100000 in
theorem fl_RX12_248 : FL RX12 248 12 92 3 (.array (.int)) true := ⟨RX12, TX12, 99, tyX12, cls_12, by decide, (aw_t6 150 rfl rfl), rfl, rfl, rfl, rfl⟩
set_option maxRecDepth 100000 in
theorem fl_RX12_251 : FL RX12 251 12 96 0 (.int) false := ⟨RX12, TX12, 99, tyX12, cls_12, by decide, (aw_t6 154 rfl rfl), rfl, rfl, rfl, rfl⟩
set_option maxRecDepth 100000 in
theorem fl_RX12_258 : FL RX12 258 12 1 0 (.int) false := ⟨RX12, TX12, 99, tyX12, cls_12, by decide, (aw_t6 59 rfl rfl), rfl, rfl, rfl, rfl⟩
set_option maxRecDepth 100000 in
theorem fl_RX12_261 : FL RX12 261 12 2 0 (.int) false := ⟨RX12, TX12, 99, tyX12, cls_12, by decide, (aw_t6 60 rfl rfl), rfl, rfl, rfl, rfl⟩
set_option maxRecDepth 100000 in
theorem fl_RX12_264 : FL RX12 264 12 3 0 (.int) false := ⟨RX12, TX12, 99, tyX12, cls_12, by decide, (aw_t6 61 rfl rfl), rfl, rfl, rfl, rfl⟩
set_option maxRecDepth 100000 in
theorem fl_RX12_267 : FL RX12 267 12 0 0 (.int) false := ⟨RX12, TX12, 99, tyX12, cls_12, by decide, (aw_t6 58 rfl rfl), rfl, rfl, rfl, rfl⟩
set_option maxRecDepth 100000 in
theorem fl_RX12_274 : FL RX12 274 12 14 0 (.int) false := ⟨RX12, TX12, 99, tyX12, cls_12, by decide, (aw_t6 72 rfl rfl), rfl, rfl, rfl, rfl⟩
set_option maxRecDepth 100000 in
theorem fl_RX12_281 : FL RX12 281 12 6 0 (.int) false := ⟨RX12, TX12, 99, tyX12, cls_12, by decide, (aw_t6 64 rfl rfl), rfl, rfl, rfl, rfl⟩
set_option maxRecDepth 100000 in
theorem fl_RX12_284 : FL RX12 284 12 8 0 (.int) false := ⟨RX12, TX12, 99, tyX12, cls_12, by decide, (aw_t6 66 rfl rfl), rfl, rfl, rfl, rfl⟩
set_option maxRecDepth 100000 in
theorem fl_RX12_287 : FL RX12 287 12 7 0 (.int) false := ⟨RX12, TX12, 99, tyX12, cls_12, by decide, (aw_t6 65 rfl rfl), rfl, rfl, rfl, rfl⟩
set_option maxRecDepth 100000 in
theorem fl_RX12_318 : FL RX12 318 12 4 0 (.int) false := ⟨RX12, TX12, 99, tyX12, cls_12, by decide, (aw_t6 62 rfl rfl), rfl, rfl, rfl, rfl⟩
set_option maxRecDepth 100000 in
theorem fl_RX12_321 : FL RX12 321 12 18 0 (.int) false := ⟨RX12, TX12, 99, tyX12, cls_12, by decide, (aw_t6 76 rfl rfl), rfl, rfl, rfl, rfl⟩
set_option maxRecDepth 100000 in
theorem fl_RX12_368 : FL RX12 368 12 97 0 (.int) false := ⟨RX12, TX12, 99, tyX12, cls_12, by decide, (aw_t6 155 rfl rfl), rfl, rfl, rfl, rfl⟩
set_option maxRecDepth 100000 in
theorem fl_RX12_371 : FL RX12 371 12 98 0 (.int) false := ⟨RX12, TX12, 99, tyX12, cls_12, by decide, (aw_t6 156 rfl rfl), rfl, rfl, rfl, rfl⟩
set_option maxRecDepth 100000 in
theorem fl_RX12_449 : FL RX12 449 12 81 0 (.int) false := ⟨RX12, TX12, 99, tyX12, cls_12, by decide, (aw_t6 139 rfl rfl), rfl, rfl, rfl, rfl⟩
set_option maxRecDepth 100000 in
theorem fl_RX12_458 : FL RX12 458 12 19 0 (.int) false := ⟨RX12, TX12, 99, tyX12, cls_12, by decide, (aw_t6 77 rfl rfl), rfl, rfl, rfl, rfl⟩
set_option maxRecDepth 100000 in
theorem fl_RX12_492 : FL RX12 492 12 89 0 (.int) false := ⟨RX12, TX12, 99, tyX12, cls_12, by decide, (aw_t6 147 rfl rfl), rfl, rfl, rfl, rfl⟩
set_option maxRecDepth 100000 in
theorem fl_RX12_530 : FL RX12 530 12 91 0 (.int) false := ⟨RX12, TX12, 99, tyX12, cls_12, by decide, (aw_t6 149 rfl rfl), rfl, rfl, rfl, rfl⟩
set_option maxRecDepth 100000 in
theorem fl_RX12_535 : FL RX12 535 12 95 0 (.int) false := ⟨RX12, TX12, 99, tyX12, cls_12, by decide, (aw_t6 153 rfl rfl), rfl, rfl, rfl, rfl⟩
set_option maxRecDepth 100000 in
theorem fl_RX12_538 : FL RX12 538 12 94 0 (.int) false := ⟨RX12, TX12, 99, tyX12, cls_12, by decide, (aw_t6 152 rfl rfl), rfl, rfl, rfl, rfl⟩
set_option maxRecDepth 100000 in
theorem fl_RX12_544 : FL RX12 544 12 93 0 (.int) false := ⟨RX12, TX12, 99, tyX12, cls_12, by decide, (aw_t6 151 rfl rfl), rfl, rfl, rfl, rfl⟩
set_option maxRecDepth 100000 in
theorem yk_J6_bitCount_0f7a4 : Cond.code yJ6_bitCount_0f7a4 cJ6_bitCount_0f7a4 1 (some .int) ∈ AW := (aw_t4 185 rfl rfl)
set_option maxRecDepth 100000 in
theorem ys_J6_bitCount_0f7a4 : Cond.static yJ6_bitCount_0f7a4 ∈ AW := (aw_t4 184 rfl rfl)
theorem yh_J6_bitCount_0f7a4 : Ymh yJ6_bitCount_0f7a4 1 := ⟨by decide, by decide, by decide +kernel⟩
set_option maxRecDepth 100000 in
theorem yk_J9_floorMod_7cf53 : Cond.code yJ9_floorMod_7cf53 cJ9_floorMod_7cf53 3 (some .int) ∈ AW := (aw_t1 32 rfl rfl)
set_option maxRecDepth 100000 in
theorem ys_J9_floorMod_7cf53 : Cond.static yJ9_floorMod_7cf53 ∈ AW := (aw_t1 31 rfl rfl)
theorem yh_J9_floorMod_7cf53 : Ymh yJ9_floorMod_7cf53 2 := ⟨by decide, by decide, by decide +kernel⟩
set_option maxRecDepth 100000 in
theorem yk_J9_max_7cf53 : Cond.code yJ9_max_7cf53 cJ9_max_7cf53 2 (some .int) ∈ AW := (aw_t1 226 rfl rfl)
set_option maxRecDepth 100000 in
theorem ys_J9_max_7cf53 : Cond.static yJ9_max_7cf53 ∈ AW := (aw_t1 225 rfl rfl)
theorem yh_J9_max_7cf53 : Ymh yJ9_max_7cf53 2 := ⟨by decide, by decide, by decide +kernel⟩
set_option maxRecDepth 100000 in
theorem yk_J9_max_f86c9 : Cond.code yJ9_max_f86c9 cJ9_max_f86c9 4 (some .long) ∈ AW := (aw_t5 76 rfl rfl)
set_option maxRecDepth 100000 in
theorem ys_J9_max_f86c9 : Cond.static yJ9_max_f86c9 ∈ AW := (aw_t5 75 rfl rfl)
theorem yh_J9_max_f86c9 : Ymh yJ9_max_f86c9 2 := ⟨by decide, by decide, by decide +kernel⟩
set_option maxRecDepth 100000 in
theorem yk_J9_min_7cf53 : Cond.code yJ9_min_7cf53 cJ9_min_7cf53 2 (some .int) ∈ AW := (aw_t3 66 rfl rfl)
set_option maxRecDepth 100000 in
theorem ys_J9_min_7cf53 : Cond.static yJ9_min_7cf53 ∈ AW := (aw_t3 65 rfl rfl)
theorem yh_J9_min_7cf53 : Ymh yJ9_min_7cf53 2 := ⟨by decide, by decide, by decide +kernel⟩
set_option maxRecDepth 100000 in
theorem yk_L_cell : Cond.code yL_cell cL_cell 2 (some .int) ∈ AW := (aw_t3 213 rfl rfl)
set_option maxRecDepth 100000 in
theorem ys_L_cell : Cond.static yL_cell ∈ AW := (aw_t3 212 rfl rfl)
theorem yh_L_cell : Ymh yL_cell 2 := ⟨by decide, by decide, by decide +kernel⟩
set_option maxRecDepth 100000 in
theorem yk_X0_add : Cond.code yX0_add cX0_add 2 none ∈ AW := (aw_t3 106 rfl rfl)
set_option maxRecDepth 100000 in
theorem yi_X0_add : Cond.instanceMethod yX0_add ∈ AW := (aw_t3 104 rfl rfl)
set_option maxRecDepth 100000 in
theorem yv_X0_add : Cond.selects RX0 yX0_add yX0_add ∈ AW := (aw_t3 105 rfl rfl)
theorem yh_X0_add : Ymh yX0_add 1 := ⟨by decide, by decide, by decide +kernel⟩
set_option maxRecDepth 100000 in
theorem yk_X0_addNumber : Cond.code yX0_addNumber cX0_addNumber 4 none ∈ AW := (aw_t3 111 rfl rfl)
set_option maxRecDepth 100000 in
theorem yi_X0_addNumber : Cond.instanceMethod yX0_addNumber ∈ AW := (aw_t3 109 rfl rfl)
set_option maxRecDepth 100000 in
theorem yv_X0_addNumber : Cond.selects RX0 yX0_addNumber yX0_addNumber ∈ AW := (aw_t3 110 rfl rfl)
theorem yh_X0_addNumber : Ymh yX0_addNumber 1 := ⟨by decide, by decide, by decide +kernel⟩
set_option maxRecDepth 100000 in
theorem yk_X0_addView : Cond.code yX0_addView cX0_addView 3 none ∈ AW := (aw_t3 116 rfl rfl)
set_option maxRecDepth 100000 in
theorem yi_X0_addView : Cond.instanceMethod yX0_addView ∈ AW := (aw_t3 114 rfl rfl)
set_option maxRecDepth 100000 in
theorem yv_X0_addView : Cond.selects RX0 yX0_addView yX0_addView ∈ AW := (aw_t3 115 rfl rfl)
theorem yh_X0_addView : Ymh yX0_addView 1 := ⟨by decide, by decide, by decide +kernel⟩
set_option maxRecDepth 100000 in
theorem yk_X0_addWord : Cond.code yX0_addWord cX0_addWord 3 none ∈ AW := (aw_t3 140 rfl rfl)
set_option maxRecDepth 100000 in
theorem yi_X0_addWord : Cond.instanceMethod yX0_addWord ∈ AW := (aw_t3 138 rfl rfl)
set_option maxRecDepth 100000 in
theorem yv_X0_addWord : Cond.selects RX0 yX0_addWord yX0_addWord ∈ AW := (aw_t3 139 rfl rfl)
theorem yh_X0_addWord : Ymh yX0_addWord 1 := ⟨by decide, by decide, by decide +kernel⟩
set_option maxRecDepth 100000 in
theorem yk_X0_addZeros : Cond.code yX0_addZeros cX0_addZeros 3 none ∈ AW := (aw_t5 210 rfl rfl)
set_option maxRecDepth 100000 in
theorem yi_X0_addZeros : Cond.instanceMethod yX0_addZeros ∈ AW := (aw_t5 208 rfl rfl)
set_option maxRecDepth 100000 in
theorem yv_X0_addZeros : Cond.selects RX0 yX0_addZeros yX0_addZeros ∈ AW := (aw_t5 209 rfl rfl)
theorem yh_X0_addZeros : Ymh yX0_addZeros 1 := ⟨by decide, by decide, by decide +kernel⟩
set_option maxRecDepth 100000 in
theorem yk_X0_at : Cond.code yX0_at cX0_at 2 (some .int) ∈ AW := (aw_t3 155 rfl rfl)
set_option maxRecDepth 100000 in
theorem yi_X0_at : Cond.instanceMethod yX0_at ∈ AW := (aw_t3 153 rfl rfl)
set_option maxRecDepth 100000 in
theorem yv_X0_at : Cond.selects RX0 yX0_at yX0_at ∈ AW := (aw_t3 154 rfl rfl)
theorem yh_X0_at : Ymh yX0_at 1 := ⟨by decide, by decide, by decide +kernel⟩
set_option maxRecDepth 100000 in
theorem yk_X0_become : Cond.code yX0_become cX0_become 3 none ∈ AW := (aw_t3 168 rfl rfl)
set_option maxRecDepth 100000 in
theorem yi_X0_become : Cond.instanceMethod yX0_become ∈ AW := (aw_t3 166 rfl rfl)
set_option maxRecDepth 100000 in
theorem yv_X0_become : Cond.selects RX0 yX0_become yX0_become ∈ AW := (aw_t3 167 rfl rfl)
theorem yh_X0_become : Ymh yX0_become 1 := ⟨by decide, by decide, by decide +kernel⟩
set_option maxRecDepth 100000 in
theorem yk_X0_endBlock : Cond.code yX0_endBlock cX0_endBlock 2 none ∈ AW := (aw_t5 215 rfl rfl)
set_option maxRecDepth 100000 in
theorem yi_X0_endBlock : Cond.instanceMethod yX0_endBlock ∈ AW := (aw_t5 213 rfl rfl)
set_option maxRecDepth 100000 in
theorem yv_X0_endBlock : Cond.selects RX0 yX0_endBlock yX0_endBlock ∈ AW := (aw_t5 214 rfl rfl)
theorem yh_X0_endBlock : Ymh yX0_endBlock 1 := ⟨by decide, by decide, by decide +kernel⟩
set_option maxRecDepth 100000 in
theorem yk_X0_init : Cond.code yX0_init cX0_init 2 none ∈ AW := (aw_t2 162 rfl rfl)
set_option maxRecDepth 100000 in
theorem yi_X0_init : Cond.instanceMethod yX0_init ∈ AW := (aw_t2 161 rfl rfl)
theorem yh_X0_init : Ymh yX0_init 1 := ⟨by decide, by decide, by decide +kernel⟩
set_option maxRecDepth 100000 in
theorem yk_X0_sumOf : Cond.code yX0_sumOf cX0_sumOf 6 (some .int) ∈ AW := (aw_t3 146 rfl rfl)
set_option maxRecDepth 100000 in
theorem yi_X0_sumOf : Cond.instanceMethod yX0_sumOf ∈ AW := (aw_t3 144 rfl rfl)
set_option maxRecDepth 100000 in
theorem yv_X0_sumOf : Cond.selects RX0 yX0_sumOf yX0_sumOf ∈ AW := (aw_t3 145 rfl rfl)
theorem yh_X0_sumOf : Ymh yX0_sumOf 2 := ⟨by decide, by decide, by decide +kernel⟩
set_option maxRecDepth 100000 in
theorem yk_X0_turnBit : Cond.code yX0_turnBit cX0_turnBit 3 none ∈ AW := (aw_t3 173 rfl rfl)
set_option maxRecDepth 100000 in
theorem yi_X0_turnBit : Cond.instanceMethod yX0_turnBit ∈ AW := (aw_t3 171 rfl rfl)
set_option maxRecDepth 100000 in
theorem yv_X0_turnBit : Cond.selects RX0 yX0_turnBit yX0_turnBit ∈ AW := (aw_t3 172 rfl rfl)
theorem yh_X0_turnBit : Ymh yX0_turnBit 2 := ⟨by decide, by decide, by decide +kernel⟩
set_option maxRecDepth 100000 in
theorem yk_X10_init : Cond.code yX10_init cX10_init 1 none ∈ AW := (aw_t1 181 rfl rfl)
set_option maxRecDepth 100000 in
theorem yi_X10_init : Cond.instanceMethod yX10_init ∈ AW := (aw_t1 180 rfl rfl)
theorem yh_X10_init : Ymh yX10_init 0 := ⟨by decide, by decide, by decide +kernel⟩
set_option maxRecDepth 100000 in
theorem yk_X10_keeps : Cond.code yX10_keeps cX10_keeps 4 (some .boolean) ∈ AW := (aw_t3 206 rfl rfl)
set_option maxRecDepth 100000 in
theorem yi_X10_keeps : Cond.instanceMethod yX10_keeps ∈ AW := (aw_t3 204 rfl rfl)
set_option maxRecDepth 100000 in
theorem yv_X10_keeps : Cond.selects RX10 yX10_keeps yX10_keeps ∈ AW := (aw_t3 205 rfl rfl)
theorem yh_X10_keeps : Ymh yX10_keeps 2 := ⟨by decide, by decide, by decide +kernel⟩
set_option maxRecDepth 100000 in
theorem yk_X10_replay : Cond.code yX10_replay cX10_replay 6 none ∈ AW := (aw_t3 70 rfl rfl)
set_option maxRecDepth 100000 in
theorem yi_X10_replay : Cond.instanceMethod yX10_replay ∈ AW := (aw_t3 68 rfl rfl)
set_option maxRecDepth 100000 in
theorem yv_X10_replay : Cond.selects RX10 yX10_replay yX10_replay ∈ AW := (aw_t3 69 rfl rfl)
theorem yh_X10_replay : Ymh yX10_replay 2 := ⟨by decide, by decide, by decide +kernel⟩
set_option maxRecDepth 100000 in
theorem yk_X11_about : Cond.code yX11_about cX11_about 2 (some .int) ∈ AW := (aw_t3 86 rfl rfl)
set_option maxRecDepth 100000 in
theorem yi_X11_about : Cond.instanceMethod yX11_about ∈ AW := (aw_t3 84 rfl rfl)
set_option maxRecDepth 100000 in
theorem yv_X11_about : Cond.selects RX11 yX11_about yX11_about ∈ AW := (aw_t3 85 rfl rfl)
theorem yh_X11_about : Ymh yX11_about 1 := ⟨by decide, by decide, by decide +kernel⟩
set_option maxRecDepth 100000 in
theorem yk_X11_again : Cond.code yX11_again cX11_again 3 none ∈ AW := (aw_t4 142 rfl rfl)
set_option maxRecDepth 100000 in
theorem yi_X11_again : Cond.instanceMethod yX11_again ∈ AW := (aw_t4 140 rfl rfl)
set_option maxRecDepth 100000 in
theorem yv_X11_again : Cond.selects RX11 yX11_again yX11_again ∈ AW := (aw_t4 141 rfl rfl)
theorem yh_X11_again : Ymh yX11_again 1 := ⟨by decide, by decide, by decide +kernel⟩
set_option maxRecDepth 100000 in
theorem yk_X11_answer : Cond.code yX11_answer cX11_answer 2 (some .int) ∈ AW := (aw_t3 82 rfl rfl)
set_option maxRecDepth 100000 in
theorem yi_X11_answer : Cond.instanceMethod yX11_answer ∈ AW := (aw_t3 80 rfl rfl)
set_option maxRecDepth 100000 in
theorem yv_X11_answer : Cond.selects RX11 yX11_answer yX11_answer ∈ AW := (aw_t3 81 rfl rfl)
theorem yh_X11_answer : Ymh yX11_answer 1 := ⟨by decide, by decide, by decide +kernel⟩
set_option maxRecDepth 100000 in
theorem yk_X11_broken : Cond.code yX11_broken cX11_broken 6 (some .int) ∈ AW := (aw_t3 193 rfl rfl)
set_option maxRecDepth 100000 in
theorem yi_X11_broken : Cond.instanceMethod yX11_broken ∈ AW := (aw_t3 191 rfl rfl)
set_option maxRecDepth 100000 in
theorem yv_X11_broken : Cond.selects RX11 yX11_broken yX11_broken ∈ AW := (aw_t3 192 rfl rfl)
theorem yh_X11_broken : Ymh yX11_broken 0 := ⟨by decide, by decide, by decide +kernel⟩
set_option maxRecDepth 100000 in
theorem yk_X11_calm : Cond.code yX11_calm cX11_calm 6 (some .int) ∈ AW := (aw_t5 193 rfl rfl)
set_option maxRecDepth 100000 in
theorem yi_X11_calm : Cond.instanceMethod yX11_calm ∈ AW := (aw_t5 191 rfl rfl)
set_option maxRecDepth 100000 in
theorem yv_X11_calm : Cond.selects RX11 yX11_calm yX11_calm ∈ AW := (aw_t5 192 rfl rfl)
theorem yh_X11_calm : Ymh yX11_calm 1 := ⟨by decide, by decide, by decide +kernel⟩
set_option maxRecDepth 100000 in
theorem yk_X11_client : Cond.code yX11_client cX11_client 4 (some .int) ∈ AW := (aw_t3 74 rfl rfl)
set_option maxRecDepth 100000 in
theorem yi_X11_client : Cond.instanceMethod yX11_client ∈ AW := (aw_t3 72 rfl rfl)
set_option maxRecDepth 100000 in
theorem yv_X11_client : Cond.selects RX11 yX11_client yX11_client ∈ AW := (aw_t3 73 rfl rfl)
theorem yh_X11_client : Ymh yX11_client 2 := ⟨by decide, by decide, by decide +kernel⟩
set_option maxRecDepth 100000 in
theorem yk_X11_deliver : Cond.code yX11_deliver cX11_deliver 3 none ∈ AW := (aw_t4 151 rfl rfl)
set_option maxRecDepth 100000 in
theorem yi_X11_deliver : Cond.instanceMethod yX11_deliver ∈ AW := (aw_t4 149 rfl rfl)
set_option maxRecDepth 100000 in
theorem yv_X11_deliver : Cond.selects RX11 yX11_deliver yX11_deliver ∈ AW := (aw_t4 150 rfl rfl)
theorem yh_X11_deliver : Ymh yX11_deliver 1 := ⟨by decide, by decide, by decide +kernel⟩
set_option maxRecDepth 100000 in
theorem yk_X11_down : Cond.code yX11_down cX11_down 2 none ∈ AW := (aw_t5 118 rfl rfl)
set_option maxRecDepth 100000 in
theorem yi_X11_down : Cond.instanceMethod yX11_down ∈ AW := (aw_t5 116 rfl rfl)
set_option maxRecDepth 100000 in
theorem yv_X11_down : Cond.selects RX11 yX11_down yX11_down ∈ AW := (aw_t5 117 rfl rfl)
theorem yh_X11_down : Ymh yX11_down 1 := ⟨by decide, by decide, by decide +kernel⟩
set_option maxRecDepth 100000 in
theorem yk_X11_downs : Cond.code yX11_downs cX11_downs 6 (some .int) ∈ AW := (aw_t5 123 rfl rfl)
set_option maxRecDepth 100000 in
theorem yi_X11_downs : Cond.instanceMethod yX11_downs ∈ AW := (aw_t5 122 rfl rfl)
set_option maxRecDepth 100000 in
theorem yv_X11_downs : Cond.selects RX11 yX11_downs yX11_downs ∈ AW := (aw_tP 30 rfl rfl)
theorem yh_X11_downs : Ymh yX11_downs 0 := ⟨by decide, by decide, by decide +kernel⟩
set_option maxRecDepth 100000 in
theorem yk_X11_entry : Cond.code yX11_entry cX11_entry 6 (some .int) ∈ AW := (aw_t3 36 rfl rfl)
set_option maxRecDepth 100000 in
theorem yi_X11_entry : Cond.instanceMethod yX11_entry ∈ AW := (aw_t3 34 rfl rfl)
set_option maxRecDepth 100000 in
theorem yv_X11_entry : Cond.selects RX11 yX11_entry yX11_entry ∈ AW := (aw_t3 35 rfl rfl)
theorem yh_X11_entry : Ymh yX11_entry 3 := ⟨by decide, by decide, by decide +kernel⟩
set_option maxRecDepth 100000 in
theorem yk_X11_fail : Cond.code yX11_fail cX11_fail 2 (some .boolean) ∈ AW := (aw_t3 10 rfl rfl)
set_option maxRecDepth 100000 in
theorem yi_X11_fail : Cond.instanceMethod yX11_fail ∈ AW := (aw_t3 8 rfl rfl)
set_option maxRecDepth 100000 in
theorem yv_X11_fail : Cond.selects RX11 yX11_fail yX11_fail ∈ AW := (aw_t3 9 rfl rfl)
theorem yh_X11_fail : Ymh yX11_fail 0 := ⟨by decide, by decide, by decide +kernel⟩
set_option maxRecDepth 100000 in
theorem yk_X11_fault : Cond.code yX11_fault cX11_fault 2 (some .int) ∈ AW := (aw_t3 177 rfl rfl)
set_option maxRecDepth 100000 in
theorem yi_X11_fault : Cond.instanceMethod yX11_fault ∈ AW := (aw_t3 175 rfl rfl)
set_option maxRecDepth 100000 in
theorem yv_X11_fault : Cond.selects RX11 yX11_fault yX11_fault ∈ AW := (aw_t3 176 rfl rfl)
theorem yh_X11_fault : Ymh yX11_fault 1 := ⟨by decide, by decide, by decide +kernel⟩
set_option maxRecDepth 100000 in
theorem yk_X11_flow : Cond.code yX11_flow cX11_flow 3 (some .int) ∈ AW := (aw_t5 110 rfl rfl)
set_option maxRecDepth 100000 in
theorem yi_X11_flow : Cond.instanceMethod yX11_flow ∈ AW := (aw_t5 108 rfl rfl)
set_option maxRecDepth 100000 in
theorem yv_X11_flow : Cond.selects RX11 yX11_flow yX11_flow ∈ AW := (aw_t5 109 rfl rfl)
theorem yh_X11_flow : Ymh yX11_flow 1 := ⟨by decide, by decide, by decide +kernel⟩
set_option maxRecDepth 100000 in
theorem yk_X11_handOver : Cond.code yX11_handOver cX11_handOver 4 none ∈ AW := (aw_t4 161 rfl rfl)
set_option maxRecDepth 100000 in
theorem yi_X11_handOver : Cond.instanceMethod yX11_handOver ∈ AW := (aw_t4 160 rfl rfl)
set_option maxRecDepth 100000 in
theorem yv_X11_handOver : Cond.selects RX11 yX11_handOver yX11_handOver ∈ AW := (aw_tP 7 rfl rfl)
theorem yh_X11_handOver : Ymh yX11_handOver 1 := ⟨by decide, by decide, by decide +kernel⟩
set_option maxRecDepth 100000 in
theorem yk_X11_handToClient : Cond.code yX11_handToClient cX11_handToClient 4 none ∈ AW := (aw_t4 169 rfl rfl)
set_option maxRecDepth 100000 in
theorem yi_X11_handToClient : Cond.instanceMethod yX11_handToClient ∈ AW := (aw_t4 168 rfl rfl)
set_option maxRecDepth 100000 in
theorem yv_X11_handToClient : Cond.selects RX11 yX11_handToClient yX11_handToClient ∈ AW := (aw_tP 8 rfl rfl)
theorem yh_X11_handToClient : Ymh yX11_handToClient 1 := ⟨by decide, by decide, by decide +kernel⟩
set_option maxRecDepth 100000 in
theorem yk_X11_image : Cond.code yX11_image cX11_image 3 (some .int) ∈ AW := (aw_t5 201 rfl rfl)
set_option maxRecDepth 100000 in
theorem yi_X11_image : Cond.instanceMethod yX11_image ∈ AW := (aw_t5 199 rfl rfl)
set_option maxRecDepth 100000 in
theorem yv_X11_image : Cond.selects RX11 yX11_image yX11_image ∈ AW := (aw_t5 200 rfl rfl)
theorem yh_X11_image : Ymh yX11_image 1 := ⟨by decide, by decide, by decide +kernel⟩
set_option maxRecDepth 100000 in
theorem yk_X11_init : Cond.code yX11_init cX11_init 4 none ∈ AW := (aw_t1 26 rfl rfl)
set_option maxRecDepth 100000 in
theorem yi_X11_init : Cond.instanceMethod yX11_init ∈ AW := (aw_t1 25 rfl rfl)
theorem yh_X11_init : Ymh yX11_init 2 := ⟨by decide, by decide, by decide +kernel⟩
set_option maxRecDepth 100000 in
theorem yk_X11_install : Cond.code yX11_install cX11_install 1 (some .int) ∈ AW := (aw_t3 14 rfl rfl)
set_option maxRecDepth 100000 in
theorem yi_X11_install : Cond.instanceMethod yX11_install ∈ AW := (aw_t3 12 rfl rfl)
set_option maxRecDepth 100000 in
theorem yv_X11_install : Cond.selects RX11 yX11_install yX11_install ∈ AW := (aw_t3 13 rfl rfl)
theorem yh_X11_install : Ymh yX11_install 0 := ⟨by decide, by decide, by decide +kernel⟩
set_option maxRecDepth 100000 in
theorem yk_X11_isBehind : Cond.code yX11_isBehind cX11_isBehind 4 (some .boolean) ∈ AW := (aw_t3 202 rfl rfl)
set_option maxRecDepth 100000 in
theorem ys_X11_isBehind : Cond.static yX11_isBehind ∈ AW := (aw_t3 201 rfl rfl)
theorem yh_X11_isBehind : Ymh yX11_isBehind 2 := ⟨by decide, by decide, by decide +kernel⟩
set_option maxRecDepth 100000 in
theorem yk_X11_isClient : Cond.code yX11_isClient cX11_isClient 2 (some .boolean) ∈ AW := (aw_t3 78 rfl rfl)
set_option maxRecDepth 100000 in
theorem yi_X11_isClient : Cond.instanceMethod yX11_isClient ∈ AW := (aw_t3 77 rfl rfl)
set_option maxRecDepth 100000 in
theorem yv_X11_isClient : Cond.selects RX11 yX11_isClient yX11_isClient ∈ AW := (aw_tP 2 rfl rfl)
theorem yh_X11_isClient : Ymh yX11_isClient 1 := ⟨by decide, by decide, by decide +kernel⟩
set_option maxRecDepth 100000 in
theorem yk_X11_isReplica : Cond.code yX11_isReplica cX11_isReplica 2 (some .boolean) ∈ AW := (aw_t3 26 rfl rfl)
set_option maxRecDepth 100000 in
theorem yi_X11_isReplica : Cond.instanceMethod yX11_isReplica ∈ AW := (aw_t3 25 rfl rfl)
set_option maxRecDepth 100000 in
theorem yv_X11_isReplica : Cond.selects RX11 yX11_isReplica yX11_isReplica ∈ AW := (aw_tP 1 rfl rfl)
theorem yh_X11_isReplica : Ymh yX11_isReplica 1 := ⟨by decide, by decide, by decide +kernel⟩
set_option maxRecDepth 100000 in
theorem yk_X11_isSameRequest : Cond.code yX11_isSameRequest cX11_isSameRequest 2 (some .boolean) ∈ AW := (aw_t3 210 rfl rfl)
set_option maxRecDepth 100000 in
theorem ys_X11_isSameRequest : Cond.static yX11_isSameRequest ∈ AW := (aw_t3 209 rfl rfl)
theorem yh_X11_isSameRequest : Ymh yX11_isSameRequest 2 := ⟨by decide, by decide, by decide +kernel⟩
set_option maxRecDepth 100000 in
theorem yk_X11_judge : Cond.code yX11_judge cX11_judge 6 none ∈ AW := (aw_t3 199 rfl rfl)
set_option maxRecDepth 100000 in
theorem yi_X11_judge : Cond.instanceMethod yX11_judge ∈ AW := (aw_t3 198 rfl rfl)
set_option maxRecDepth 100000 in
theorem yv_X11_judge : Cond.selects RX11 yX11_judge yX11_judge ∈ AW := (aw_tP 4 rfl rfl)
theorem yh_X11_judge : Ymh yX11_judge 2 := ⟨by decide, by decide, by decide +kernel⟩
set_option maxRecDepth 100000 in
theorem yk_X11_leadOf : Cond.code yX11_leadOf cX11_leadOf 2 (some .int) ∈ AW := (aw_t3 29 rfl rfl)
set_option maxRecDepth 100000 in
theorem ys_X11_leadOf : Cond.static yX11_leadOf ∈ AW := (aw_t3 28 rfl rfl)
theorem yh_X11_leadOf : Ymh yX11_leadOf 1 := ⟨by decide, by decide, by decide +kernel⟩
set_option maxRecDepth 100000 in
theorem yk_X11_lose : Cond.code yX11_lose cX11_lose 3 none ∈ AW := (aw_t5 103 rfl rfl)
set_option maxRecDepth 100000 in
theorem yi_X11_lose : Cond.instanceMethod yX11_lose ∈ AW := (aw_t5 101 rfl rfl)
set_option maxRecDepth 100000 in
theorem yv_X11_lose : Cond.selects RX11 yX11_lose yX11_lose ∈ AW := (aw_t5 102 rfl rfl)
theorem yh_X11_lose : Ymh yX11_lose 1 := ⟨by decide, by decide, by decide +kernel⟩
set_option maxRecDepth 100000 in
theorem yk_X11_message : Cond.code yX11_message cX11_message 4 (some .int) ∈ AW := (aw_t3 90 rfl rfl)
set_option maxRecDepth 100000 in
theorem yi_X11_message : Cond.instanceMethod yX11_message ∈ AW := (aw_t3 88 rfl rfl)
set_option maxRecDepth 100000 in
theorem yv_X11_message : Cond.selects RX11 yX11_message yX11_message ∈ AW := (aw_t3 89 rfl rfl)
theorem yh_X11_message : Ymh yX11_message 2 := ⟨by decide, by decide, by decide +kernel⟩
set_option maxRecDepth 100000 in
theorem yk_X11_nudge : Cond.code yX11_nudge cX11_nudge 3 (some .int) ∈ AW := (aw_t5 152 rfl rfl)
set_option maxRecDepth 100000 in
theorem yi_X11_nudge : Cond.instanceMethod yX11_nudge ∈ AW := (aw_t5 150 rfl rfl)
set_option maxRecDepth 100000 in
theorem yv_X11_nudge : Cond.selects RX11 yX11_nudge yX11_nudge ∈ AW := (aw_t5 151 rfl rfl)
theorem yh_X11_nudge : Ymh yX11_nudge 1 := ⟨by decide, by decide, by decide +kernel⟩
set_option maxRecDepth 100000 in
theorem yk_X11_output : Cond.code yX11_output cX11_output 2 (some .int) ∈ AW := (aw_t3 151 rfl rfl)
set_option maxRecDepth 100000 in
theorem yi_X11_output : Cond.instanceMethod yX11_output ∈ AW := (aw_t3 149 rfl rfl)
set_option maxRecDepth 100000 in
theorem yv_X11_output : Cond.selects RX11 yX11_output yX11_output ∈ AW := (aw_t3 150 rfl rfl)
theorem yh_X11_output : Ymh yX11_output 1 := ⟨by decide, by decide, by decide +kernel⟩
set_option maxRecDepth 100000 in
theorem yk_X11_passTick : Cond.code yX11_passTick cX11_passTick 5 none ∈ AW := (aw_t5 179 rfl rfl)
set_option maxRecDepth 100000 in
theorem yi_X11_passTick : Cond.instanceMethod yX11_passTick ∈ AW := (aw_t5 178 rfl rfl)
set_option maxRecDepth 100000 in
theorem yv_X11_passTick : Cond.selects RX11 yX11_passTick yX11_passTick ∈ AW := (aw_tP 31 rfl rfl)
theorem yh_X11_passTick : Ymh yX11_passTick 0 := ⟨by decide, by decide, by decide +kernel⟩
set_option maxRecDepth 100000 in
theorem yk_X11_put : Cond.code yX11_put cX11_put 5 (some .boolean) ∈ AW := (aw_t3 159 rfl rfl)
set_option maxRecDepth 100000 in
theorem yi_X11_put : Cond.instanceMethod yX11_put ∈ AW := (aw_t3 157 rfl rfl)
set_option maxRecDepth 100000 in
theorem yv_X11_put : Cond.selects RX11 yX11_put yX11_put ∈ AW := (aw_t3 158 rfl rfl)
theorem yh_X11_put : Ymh yX11_put 2 := ⟨by decide, by decide, by decide +kernel⟩
set_option maxRecDepth 100000 in
theorem yk_X11_raiseSequencer : Cond.code yX11_raiseSequencer cX11_raiseSequencer 1 none ∈ AW := (aw_t3 18 rfl rfl)
set_option maxRecDepth 100000 in
theorem yi_X11_raiseSequencer : Cond.instanceMethod yX11_raiseSequencer ∈ AW := (aw_t3 17 rfl rfl)
set_option maxRecDepth 100000 in
theorem yv_X11_raiseSequencer : Cond.selects RX11 yX11_raiseSequencer yX11_raiseSequencer ∈ AW := (aw_tP 0 rfl rfl)
theorem yh_X11_raiseSequencer : Ymh yX11_raiseSequencer 0 := ⟨by decide, by decide, by decide +kernel⟩
set_option maxRecDepth 100000 in
theorem yk_X11_replica : Cond.code yX11_replica cX11_replica 4 (some .int) ∈ AW := (aw_t3 22 rfl rfl)
set_option maxRecDepth 100000 in
theorem yi_X11_replica : Cond.instanceMethod yX11_replica ∈ AW := (aw_t3 20 rfl rfl)
set_option maxRecDepth 100000 in
theorem yv_X11_replica : Cond.selects RX11 yX11_replica yX11_replica ∈ AW := (aw_t3 21 rfl rfl)
theorem yh_X11_replica : Ymh yX11_replica 2 := ⟨by decide, by decide, by decide +kernel⟩
set_option maxRecDepth 100000 in
theorem yk_X11_request : Cond.code yX11_request cX11_request 6 (some .int) ∈ AW := (aw_t3 223 rfl rfl)
set_option maxRecDepth 100000 in
theorem yi_X11_request : Cond.instanceMethod yX11_request ∈ AW := (aw_t3 221 rfl rfl)
set_option maxRecDepth 100000 in
theorem yv_X11_request : Cond.selects RX11 yX11_request yX11_request ∈ AW := (aw_t3 222 rfl rfl)
theorem yh_X11_request : Ymh yX11_request 4 := ⟨by decide, by decide, by decide +kernel⟩
set_option maxRecDepth 100000 in
theorem yk_X11_sessionOf : Cond.code yX11_sessionOf cX11_sessionOf 2 (some .int) ∈ AW := (aw_t3 32 rfl rfl)
set_option maxRecDepth 100000 in
theorem ys_X11_sessionOf : Cond.static yX11_sessionOf ∈ AW := (aw_t3 31 rfl rfl)
theorem yh_X11_sessionOf : Ymh yX11_sessionOf 1 := ⟨by decide, by decide, by decide +kernel⟩
set_option maxRecDepth 100000 in
theorem yk_X11_stamp : Cond.code yX11_stamp cX11_stamp 4 none ∈ AW := (aw_t4 130 rfl rfl)
set_option maxRecDepth 100000 in
theorem yi_X11_stamp : Cond.instanceMethod yX11_stamp ∈ AW := (aw_t4 129 rfl rfl)
set_option maxRecDepth 100000 in
theorem yv_X11_stamp : Cond.selects RX11 yX11_stamp yX11_stamp ∈ AW := (aw_tP 6 rfl rfl)
theorem yh_X11_stamp : Ymh yX11_stamp 1 := ⟨by decide, by decide, by decide +kernel⟩
set_option maxRecDepth 100000 in
theorem yk_X11_suspect : Cond.code yX11_suspect cX11_suspect 2 none ∈ AW := (aw_t5 140 rfl rfl)
set_option maxRecDepth 100000 in
theorem yi_X11_suspect : Cond.instanceMethod yX11_suspect ∈ AW := (aw_t5 138 rfl rfl)
set_option maxRecDepth 100000 in
theorem yv_X11_suspect : Cond.selects RX11 yX11_suspect yX11_suspect ∈ AW := (aw_t5 139 rfl rfl)
theorem yh_X11_suspect : Ymh yX11_suspect 1 := ⟨by decide, by decide, by decide +kernel⟩
set_option maxRecDepth 100000 in
theorem yk_X11_sync : Cond.code yX11_sync cX11_sync 3 none ∈ AW := (aw_t5 163 rfl rfl)
set_option maxRecDepth 100000 in
theorem yi_X11_sync : Cond.instanceMethod yX11_sync ∈ AW := (aw_t5 161 rfl rfl)
set_option maxRecDepth 100000 in
theorem yv_X11_sync : Cond.selects RX11 yX11_sync yX11_sync ∈ AW := (aw_t5 162 rfl rfl)
theorem yh_X11_sync : Ymh yX11_sync 1 := ⟨by decide, by decide, by decide +kernel⟩
set_option maxRecDepth 100000 in
theorem yk_X11_take : Cond.code yX11_take cX11_take 3 (some .int) ∈ AW := (aw_t3 164 rfl rfl)
set_option maxRecDepth 100000 in
theorem yi_X11_take : Cond.instanceMethod yX11_take ∈ AW := (aw_t3 162 rfl rfl)
set_option maxRecDepth 100000 in
theorem yv_X11_take : Cond.selects RX11 yX11_take yX11_take ∈ AW := (aw_t3 163 rfl rfl)
theorem yh_X11_take : Ymh yX11_take 2 := ⟨by decide, by decide, by decide +kernel⟩
set_option maxRecDepth 100000 in
theorem yk_X11_tick : Cond.code yX11_tick cX11_tick 4 (some .int) ∈ AW := (aw_t5 175 rfl rfl)
set_option maxRecDepth 100000 in
theorem yi_X11_tick : Cond.instanceMethod yX11_tick ∈ AW := (aw_t5 173 rfl rfl)
set_option maxRecDepth 100000 in
theorem yv_X11_tick : Cond.selects RX11 yX11_tick yX11_tick ∈ AW := (aw_t5 174 rfl rfl)
theorem yh_X11_tick : Ymh yX11_tick 1 := ⟨by decide, by decide, by decide +kernel⟩
set_option maxRecDepth 100000 in
theorem yk_X11_told : Cond.code yX11_told cX11_told 2 (some .int) ∈ AW := (aw_t3 181 rfl rfl)
set_option maxRecDepth 100000 in
theorem yi_X11_told : Cond.instanceMethod yX11_told ∈ AW := (aw_t3 179 rfl rfl)
set_option maxRecDepth 100000 in
theorem yv_X11_told : Cond.selects RX11 yX11_told yX11_told ∈ AW := (aw_t3 180 rfl rfl)
theorem yh_X11_told : Ymh yX11_told 1 := ⟨by decide, by decide, by decide +kernel⟩
set_option maxRecDepth 100000 in
theorem yk_X11_tolds : Cond.code yX11_tolds cX11_tolds 1 (some .int) ∈ AW := (aw_t3 189 rfl rfl)
set_option maxRecDepth 100000 in
theorem yi_X11_tolds : Cond.instanceMethod yX11_tolds ∈ AW := (aw_t3 187 rfl rfl)
set_option maxRecDepth 100000 in
theorem yv_X11_tolds : Cond.selects RX11 yX11_tolds yX11_tolds ∈ AW := (aw_t3 188 rfl rfl)
theorem yh_X11_tolds : Ymh yX11_tolds 0 := ⟨by decide, by decide, by decide +kernel⟩
set_option maxRecDepth 100000 in
theorem yk_X11_untake : Cond.code yX11_untake cX11_untake 1 (some .int) ∈ AW := (aw_t5 231 rfl rfl)
set_option maxRecDepth 100000 in
theorem yi_X11_untake : Cond.instanceMethod yX11_untake ∈ AW := (aw_t5 229 rfl rfl)
set_option maxRecDepth 100000 in
theorem yv_X11_untake : Cond.selects RX11 yX11_untake yX11_untake ∈ AW := (aw_t5 230 rfl rfl)
theorem yh_X11_untake : Ymh yX11_untake 0 := ⟨by decide, by decide, by decide +kernel⟩
set_option maxRecDepth 100000 in
theorem yk_X11_up : Cond.code yX11_up cX11_up 2 none ∈ AW := (aw_t5 132 rfl rfl)
set_option maxRecDepth 100000 in
theorem yi_X11_up : Cond.instanceMethod yX11_up ∈ AW := (aw_t5 130 rfl rfl)
set_option maxRecDepth 100000 in
theorem yv_X11_up : Cond.selects RX11 yX11_up yX11_up ∈ AW := (aw_t5 131 rfl rfl)
theorem yh_X11_up : Ymh yX11_up 1 := ⟨by decide, by decide, by decide +kernel⟩
set_option maxRecDepth 100000 in
theorem yk_X11_viewOf : Cond.code yX11_viewOf cX11_viewOf 2 (some .long) ∈ AW := (aw_t1 213 rfl rfl)
set_option maxRecDepth 100000 in
theorem ys_X11_viewOf : Cond.static yX11_viewOf ∈ AW := (aw_t1 212 rfl rfl)
theorem yh_X11_viewOf : Ymh yX11_viewOf 2 := ⟨by decide, by decide, by decide +kernel⟩
set_option maxRecDepth 100000 in
theorem yk_X11_wire : Cond.code yX11_wire cX11_wire 2 (some .int) ∈ AW := (aw_t3 98 rfl rfl)
set_option maxRecDepth 100000 in
theorem yi_X11_wire : Cond.instanceMethod yX11_wire ∈ AW := (aw_t3 96 rfl rfl)
set_option maxRecDepth 100000 in
theorem yv_X11_wire : Cond.selects RX11 yX11_wire yX11_wire ∈ AW := (aw_t3 97 rfl rfl)
theorem yh_X11_wire : Ymh yX11_wire 1 := ⟨by decide, by decide, by decide +kernel⟩
set_option maxRecDepth 100000 in
theorem yk_X11_word : Cond.code yX11_word cX11_word 3 (some .int) ∈ AW := (aw_t3 49 rfl rfl)
set_option maxRecDepth 100000 in
theorem yi_X11_word : Cond.instanceMethod yX11_word ∈ AW := (aw_t3 47 rfl rfl)
set_option maxRecDepth 100000 in
theorem yv_X11_word : Cond.selects RX11 yX11_word yX11_word ∈ AW := (aw_t3 48 rfl rfl)
theorem yh_X11_word : Ymh yX11_word 2 := ⟨by decide, by decide, by decide +kernel⟩
set_option maxRecDepth 100000 in
theorem yk_X12_about : Cond.code yX12_about cX12_about 2 (some .int) ∈ AW := (aw_t8 194 rfl rfl)
set_option maxRecDepth 100000 in
theorem yi_X12_about : Cond.instanceMethod yX12_about ∈ AW := (aw_t8 192 rfl rfl)
set_option maxRecDepth 100000 in
theorem yv_X12_about : Cond.selects RX12 yX12_about yX12_about ∈ AW := (aw_t8 193 rfl rfl)
theorem yh_X12_about : Ymh yX12_about 1 := ⟨by decide, by decide, by decide +kernel⟩
set_option maxRecDepth 100000 in
theorem yk_X12_accept : Cond.code yX12_accept cX12_accept 4 none ∈ AW := (aw_t7 184 rfl rfl)
set_option maxRecDepth 100000 in
theorem yi_X12_accept : Cond.instanceMethod yX12_accept ∈ AW := (aw_t7 183 rfl rfl)
set_option maxRecDepth 100000 in
theorem yv_X12_accept : Cond.selects RX12 yX12_accept yX12_accept ∈ AW := (aw_tP 54 rfl rfl)
theorem yh_X12_accept : Ymh yX12_accept 2 := ⟨by decide, by decide, by decide +kernel⟩
set_option maxRecDepth 100000 in
theorem yk_X12_acts : Cond.code yX12_acts cX12_acts 4 none ∈ AW := (aw_t8 158 rfl rfl)
set_option maxRecDepth 100000 in
theorem yi_X12_acts : Cond.instanceMethod yX12_acts ∈ AW := (aw_t8 157 rfl rfl)
set_option maxRecDepth 100000 in
theorem yv_X12_acts : Cond.selects RX12 yX12_acts yX12_acts ∈ AW := (aw_tP 98 rfl rfl)
theorem yh_X12_acts : Ymh yX12_acts 1 := ⟨by decide, by decide, by decide +kernel⟩
set_option maxRecDepth 100000 in
theorem yk_X12_add : Cond.code yX12_add cX12_add 2 none ∈ AW := (aw_t7 145 rfl rfl)
set_option maxRecDepth 100000 in
theorem yi_X12_add : Cond.instanceMethod yX12_add ∈ AW := (aw_t7 144 rfl rfl)
set_option maxRecDepth 100000 in
theorem yv_X12_add : Cond.selects RX12 yX12_add yX12_add ∈ AW := (aw_tP 47 rfl rfl)
theorem yh_X12_add : Ymh yX12_add 1 := ⟨by decide, by decide, by decide +kernel⟩
set_option maxRecDepth 100000 in
theorem yk_X12_addLog : Cond.code yX12_addLog cX12_addLog 5 none ∈ AW := (aw_t7 228 rfl rfl)
set_option maxRecDepth 100000 in
theorem yi_X12_addLog : Cond.instanceMethod yX12_addLog ∈ AW := (aw_t7 227 rfl rfl)
set_option maxRecDepth 100000 in
theorem yv_X12_addLog : Cond.selects RX12 yX12_addLog yX12_addLog ∈ AW := (aw_tP 65 rfl rfl)
theorem yh_X12_addLog : Ymh yX12_addLog 2 := ⟨by decide, by decide, by decide +kernel⟩
set_option maxRecDepth 100000 in
theorem yk_X12_addNothing : Cond.code yX12_addNothing cX12_addNothing 2 none ∈ AW := (aw_t8 24 rfl rfl)
set_option maxRecDepth 100000 in
theorem yi_X12_addNothing : Cond.instanceMethod yX12_addNothing ∈ AW := (aw_t8 23 rfl rfl)
set_option maxRecDepth 100000 in
theorem yv_X12_addNothing : Cond.selects RX12 yX12_addNothing yX12_addNothing ∈ AW := (aw_tP 74 rfl rfl)
theorem yh_X12_addNothing : Ymh yX12_addNothing 1 := ⟨by decide, by decide, by decide +kernel⟩
set_option maxRecDepth 100000 in
theorem yk_X12_addView : Cond.code yX12_addView cX12_addView 2 none ∈ AW := (aw_t7 212 rfl rfl)
set_option maxRecDepth 100000 in
theorem yi_X12_addView : Cond.instanceMethod yX12_addView ∈ AW := (aw_t7 211 rfl rfl)
set_option maxRecDepth 100000 in
theorem yv_X12_addView : Cond.selects RX12 yX12_addView yX12_addView ∈ AW := (aw_tP 61 rfl rfl)
theorem yh_X12_addView : Ymh yX12_addView 1 := ⟨by decide, by decide, by decide +kernel⟩
set_option maxRecDepth 100000 in
theorem yk_X12_again : Cond.code yX12_again cX12_again 2 none ∈ AW := (aw_t7 153 rfl rfl)
set_option maxRecDepth 100000 in
theorem yi_X12_again : Cond.instanceMethod yX12_again ∈ AW := (aw_t7 151 rfl rfl)
set_option maxRecDepth 100000 in
theorem yv_X12_again : Cond.selects RX12 yX12_again yX12_again ∈ AW := (aw_t7 152 rfl rfl)
theorem yh_X12_again : Ymh yX12_again 1 := ⟨by decide, by decide, by decide +kernel⟩
set_option maxRecDepth 100000 in
theorem yk_X12_answer : Cond.code yX12_answer cX12_answer 2 (some .int) ∈ AW := (aw_t8 190 rfl rfl)
set_option maxRecDepth 100000 in
theorem yi_X12_answer : Cond.instanceMethod yX12_answer ∈ AW := (aw_t8 188 rfl rfl)
set_option maxRecDepth 100000 in
theorem yv_X12_answer : Cond.selects RX12 yX12_answer yX12_answer ∈ AW := (aw_t8 189 rfl rfl)
theorem yh_X12_answer : Ymh yX12_answer 1 := ⟨by decide, by decide, by decide +kernel⟩
set_option maxRecDepth 100000 in
theorem yk_X12_asks : Cond.code yX12_asks cX12_asks 2 none ∈ AW := (aw_t8 134 rfl rfl)
set_option maxRecDepth 100000 in
theorem yi_X12_asks : Cond.instanceMethod yX12_asks ∈ AW := (aw_t8 133 rfl rfl)
set_option maxRecDepth 100000 in
theorem yv_X12_asks : Cond.selects RX12 yX12_asks yX12_asks ∈ AW := (aw_tP 94 rfl rfl)
theorem yh_X12_asks : Ymh yX12_asks 1 := ⟨by decide, by decide, by decide +kernel⟩
set_option maxRecDepth 100000 in
theorem yk_X12_becomeNormal : Cond.code yX12_becomeNormal cX12_becomeNormal 2 none ∈ AW := (aw_t8 66 rfl rfl)
set_option maxRecDepth 100000 in
theorem yi_X12_becomeNormal : Cond.instanceMethod yX12_becomeNormal ∈ AW := (aw_t8 65 rfl rfl)
set_option maxRecDepth 100000 in
theorem yv_X12_becomeNormal : Cond.selects RX12 yX12_becomeNormal yX12_becomeNormal ∈ AW := (aw_tP 83 rfl rfl)
theorem yh_X12_becomeNormal : Ymh yX12_becomeNormal 1 := ⟨by decide, by decide, by decide +kernel⟩
set_option maxRecDepth 100000 in
theorem yk_X12_begin : Cond.code yX12_begin cX12_begin 4 none ∈ AW := (aw_t7 141 rfl rfl)
set_option maxRecDepth 100000 in
theorem yi_X12_begin : Cond.instanceMethod yX12_begin ∈ AW := (aw_t7 140 rfl rfl)
set_option maxRecDepth 100000 in
theorem yv_X12_begin : Cond.selects RX12 yX12_begin yX12_begin ∈ AW := (aw_tP 46 rfl rfl)
theorem yh_X12_begin : Ymh yX12_begin 3 := ⟨by decide, by decide, by decide +kernel⟩
set_option maxRecDepth 100000 in
theorem yk_X12_bits : Cond.code yX12_bits cX12_bits 3 (some .int) ∈ AW := (aw_t7 180 rfl rfl)
set_option maxRecDepth 100000 in
theorem ys_X12_bits : Cond.static yX12_bits ∈ AW := (aw_t7 179 rfl rfl)
theorem yh_X12_bits : Ymh yX12_bits 1 := ⟨by decide, by decide, by decide +kernel⟩
set_option maxRecDepth 100000 in
theorem yk_X12_broken : Cond.code yX12_broken cX12_broken 5 (some .int) ∈ AW := (aw_t9 77 rfl rfl)
set_option maxRecDepth 100000 in
theorem yi_X12_broken : Cond.instanceMethod yX12_broken ∈ AW := (aw_t9 75 rfl rfl)
set_option maxRecDepth 100000 in
theorem yv_X12_broken : Cond.selects RX12 yX12_broken yX12_broken ∈ AW := (aw_t9 76 rfl rfl)
theorem yh_X12_broken : Ymh yX12_broken 0 := ⟨by decide, by decide, by decide +kernel⟩
set_option maxRecDepth 100000 in
theorem yk_X12_calm : Cond.code yX12_calm cX12_calm 6 (some .int) ∈ AW := (aw_t8 162 rfl rfl)
set_option maxRecDepth 100000 in
theorem yi_X12_calm : Cond.instanceMethod yX12_calm ∈ AW := (aw_t8 160 rfl rfl)
set_option maxRecDepth 100000 in
theorem yv_X12_calm : Cond.selects RX12 yX12_calm yX12_calm ∈ AW := (aw_t8 161 rfl rfl)
theorem yh_X12_calm : Ymh yX12_calm 1 := ⟨by decide, by decide, by decide +kernel⟩
set_option maxRecDepth 100000 in
theorem yk_X12_client : Cond.code yX12_client cX12_client 4 (some .int) ∈ AW := (aw_t8 186 rfl rfl)
set_option maxRecDepth 100000 in
theorem yi_X12_client : Cond.instanceMethod yX12_client ∈ AW := (aw_t8 184 rfl rfl)
set_option maxRecDepth 100000 in
theorem yv_X12_client : Cond.selects RX12 yX12_client yX12_client ∈ AW := (aw_t8 185 rfl rfl)
theorem yh_X12_client : Ymh yX12_client 2 := ⟨by decide, by decide, by decide +kernel⟩
set_option maxRecDepth 100000 in
theorem yk_X12_clientGets : Cond.code yX12_clientGets cX12_clientGets 4 none ∈ AW := (aw_t7 173 rfl rfl)
set_option maxRecDepth 100000 in
theorem yi_X12_clientGets : Cond.instanceMethod yX12_clientGets ∈ AW := (aw_t7 172 rfl rfl)
set_option maxRecDepth 100000 in
theorem yv_X12_clientGets : Cond.selects RX12 yX12_clientGets yX12_clientGets ∈ AW := (aw_tP 52 rfl rfl)
theorem yh_X12_clientGets : Ymh yX12_clientGets 1 := ⟨by decide, by decide, by decide +kernel⟩
set_option maxRecDepth 100000 in
theorem yk_X12_commitGap : Cond.code yX12_commitGap cX12_commitGap 4 none ∈ AW := (aw_t8 90 rfl rfl)
set_option maxRecDepth 100000 in
theorem yi_X12_commitGap : Cond.instanceMethod yX12_commitGap ∈ AW := (aw_t8 89 rfl rfl)
set_option maxRecDepth 100000 in
theorem yv_X12_commitGap : Cond.selects RX12 yX12_commitGap yX12_commitGap ∈ AW := (aw_tP 89 rfl rfl)
theorem yh_X12_commitGap : Ymh yX12_commitGap 2 := ⟨by decide, by decide, by decide +kernel⟩
set_option maxRecDepth 100000 in
theorem yk_X12_deliver : Cond.code yX12_deliver cX12_deliver 3 none ∈ AW := (aw_t7 157 rfl rfl)
set_option maxRecDepth 100000 in
theorem yi_X12_deliver : Cond.instanceMethod yX12_deliver ∈ AW := (aw_t7 155 rfl rfl)
set_option maxRecDepth 100000 in
theorem yv_X12_deliver : Cond.selects RX12 yX12_deliver yX12_deliver ∈ AW := (aw_t7 156 rfl rfl)
theorem yh_X12_deliver : Ymh yX12_deliver 1 := ⟨by decide, by decide, by decide +kernel⟩
set_option maxRecDepth 100000 in
theorem yk_X12_doEntry : Cond.code yX12_doEntry cX12_doEntry 4 (some .boolean) ∈ AW := (aw_t8 20 rfl rfl)
set_option maxRecDepth 100000 in
theorem yi_X12_doEntry : Cond.instanceMethod yX12_doEntry ∈ AW := (aw_t8 19 rfl rfl)
set_option maxRecDepth 100000 in
theorem yv_X12_doEntry : Cond.selects RX12 yX12_doEntry yX12_doEntry ∈ AW := (aw_tP 73 rfl rfl)
theorem yh_X12_doEntry : Ymh yX12_doEntry 1 := ⟨by decide, by decide, by decide +kernel⟩
set_option maxRecDepth 100000 in
theorem yk_X12_down : Cond.code yX12_down cX12_down 2 none ∈ AW := (aw_t8 110 rfl rfl)
set_option maxRecDepth 100000 in
theorem yi_X12_down : Cond.instanceMethod yX12_down ∈ AW := (aw_t8 108 rfl rfl)
set_option maxRecDepth 100000 in
theorem yv_X12_down : Cond.selects RX12 yX12_down yX12_down ∈ AW := (aw_t8 109 rfl rfl)
theorem yh_X12_down : Ymh yX12_down 1 := ⟨by decide, by decide, by decide +kernel⟩
set_option maxRecDepth 100000 in
theorem yk_X12_downs : Cond.code yX12_downs cX12_downs 3 (some .int) ∈ AW := (aw_t8 118 rfl rfl)
set_option maxRecDepth 100000 in
theorem yi_X12_downs : Cond.instanceMethod yX12_downs ∈ AW := (aw_t8 117 rfl rfl)
set_option maxRecDepth 100000 in
theorem yv_X12_downs : Cond.selects RX12 yX12_downs yX12_downs ∈ AW := (aw_tP 93 rfl rfl)
theorem yh_X12_downs : Ymh yX12_downs 0 := ⟨by decide, by decide, by decide +kernel⟩
set_option maxRecDepth 100000 in
theorem yk_X12_drop : Cond.code yX12_drop cX12_drop 4 none ∈ AW := (aw_t8 8 rfl rfl)
set_option maxRecDepth 100000 in
theorem yi_X12_drop : Cond.instanceMethod yX12_drop ∈ AW := (aw_t8 7 rfl rfl)
set_option maxRecDepth 100000 in
theorem yv_X12_drop : Cond.selects RX12 yX12_drop yX12_drop ∈ AW := (aw_tP 70 rfl rfl)
theorem yh_X12_drop : Ymh yX12_drop 2 := ⟨by decide, by decide, by decide +kernel⟩
set_option maxRecDepth 100000 in
theorem yk_X12_endBlock : Cond.code yX12_endBlock cX12_endBlock 2 none ∈ AW := (aw_t9 3 rfl rfl)
set_option maxRecDepth 100000 in
theorem yi_X12_endBlock : Cond.instanceMethod yX12_endBlock ∈ AW := (aw_t9 2 rfl rfl)
set_option maxRecDepth 100000 in
theorem yv_X12_endBlock : Cond.selects RX12 yX12_endBlock yX12_endBlock ∈ AW := (aw_tP 104 rfl rfl)
theorem yh_X12_endBlock : Ymh yX12_endBlock 1 := ⟨by decide, by decide, by decide +kernel⟩
set_option maxRecDepth 100000 in
theorem yk_X12_entry : Cond.code yX12_entry cX12_entry 7 (some .int) ∈ AW := (aw_t8 178 rfl rfl)
set_option maxRecDepth 100000 in
theorem yi_X12_entry : Cond.instanceMethod yX12_entry ∈ AW := (aw_t8 176 rfl rfl)
set_option maxRecDepth 100000 in
theorem yv_X12_entry : Cond.selects RX12 yX12_entry yX12_entry ∈ AW := (aw_t8 177 rfl rfl)
theorem yh_X12_entry : Ymh yX12_entry 3 := ⟨by decide, by decide, by decide +kernel⟩
set_option maxRecDepth 100000 in
theorem yk_X12_establish : Cond.code yX12_establish cX12_establish 1 (some .int) ∈ AW := (aw_t8 154 rfl rfl)
set_option maxRecDepth 100000 in
theorem yi_X12_establish : Cond.instanceMethod yX12_establish ∈ AW := (aw_t8 153 rfl rfl)
set_option maxRecDepth 100000 in
theorem yv_X12_establish : Cond.selects RX12 yX12_establish yX12_establish ∈ AW := (aw_tP 97 rfl rfl)
theorem yh_X12_establish : Ymh yX12_establish 0 := ⟨by decide, by decide, by decide +kernel⟩
set_option maxRecDepth 100000 in
theorem yk_X12_execute : Cond.code yX12_execute cX12_execute 5 none ∈ AW := (aw_t8 12 rfl rfl)
set_option maxRecDepth 100000 in
theorem yi_X12_execute : Cond.instanceMethod yX12_execute ∈ AW := (aw_t8 11 rfl rfl)
set_option maxRecDepth 100000 in
theorem yv_X12_execute : Cond.selects RX12 yX12_execute yX12_execute ∈ AW := (aw_tP 71 rfl rfl)
theorem yh_X12_execute : Ymh yX12_execute 1 := ⟨by decide, by decide, by decide +kernel⟩
set_option maxRecDepth 100000 in
theorem yk_X12_fail : Cond.code yX12_fail cX12_fail 2 (some .boolean) ∈ AW := (aw_t8 166 rfl rfl)
set_option maxRecDepth 100000 in
theorem yi_X12_fail : Cond.instanceMethod yX12_fail ∈ AW := (aw_t8 164 rfl rfl)
set_option maxRecDepth 100000 in
theorem yv_X12_fail : Cond.selects RX12 yX12_fail yX12_fail ∈ AW := (aw_t8 165 rfl rfl)
theorem yh_X12_fail : Ymh yX12_fail 0 := ⟨by decide, by decide, by decide +kernel⟩
set_option maxRecDepth 100000 in
theorem yk_X12_fault : Cond.code yX12_fault cX12_fault 2 (some .int) ∈ AW := (aw_t9 65 rfl rfl)
set_option maxRecDepth 100000 in
theorem yi_X12_fault : Cond.instanceMethod yX12_fault ∈ AW := (aw_t9 63 rfl rfl)
set_option maxRecDepth 100000 in
theorem yv_X12_fault : Cond.selects RX12 yX12_fault yX12_fault ∈ AW := (aw_t9 64 rfl rfl)
theorem yh_X12_fault : Ymh yX12_fault 1 := ⟨by decide, by decide, by decide +kernel⟩
set_option maxRecDepth 100000 in
theorem yk_X12_find : Cond.code yX12_find cX12_find 3 (some .int) ∈ AW := (aw_t7 161 rfl rfl)
set_option maxRecDepth 100000 in
theorem yi_X12_find : Cond.instanceMethod yX12_find ∈ AW := (aw_t7 160 rfl rfl)
set_option maxRecDepth 100000 in
theorem yv_X12_find : Cond.selects RX12 yX12_find yX12_find ∈ AW := (aw_tP 49 rfl rfl)
theorem yh_X12_find : Ymh yX12_find 1 := ⟨by decide, by decide, by decide +kernel⟩
set_option maxRecDepth 100000 in
theorem yk_X12_findBest : Cond.code yX12_findBest cX12_findBest 5 none ∈ AW := (aw_t8 51 rfl rfl)
set_option maxRecDepth 100000 in
theorem yi_X12_findBest : Cond.instanceMethod yX12_findBest ∈ AW := (aw_t8 50 rfl rfl)
set_option maxRecDepth 100000 in
theorem yv_X12_findBest : Cond.selects RX12 yX12_findBest yX12_findBest ∈ AW := (aw_tP 80 rfl rfl)
theorem yh_X12_findBest : Ymh yX12_findBest 1 := ⟨by decide, by decide, by decide +kernel⟩
set_option maxRecDepth 100000 in
theorem yk_X12_flow : Cond.code yX12_flow cX12_flow 3 (some .int) ∈ AW := (aw_t8 106 rfl rfl)
set_option maxRecDepth 100000 in
theorem yi_X12_flow : Cond.instanceMethod yX12_flow ∈ AW := (aw_t8 104 rfl rfl)
set_option maxRecDepth 100000 in
theorem yv_X12_flow : Cond.selects RX12 yX12_flow yX12_flow ∈ AW := (aw_t8 105 rfl rfl)
theorem yh_X12_flow : Ymh yX12_flow 1 := ⟨by decide, by decide, by decide +kernel⟩
set_option maxRecDepth 100000 in
theorem yk_X12_forgetCounts : Cond.code yX12_forgetCounts cX12_forgetCounts 2 none ∈ AW := (aw_t7 200 rfl rfl)
set_option maxRecDepth 100000 in
theorem yi_X12_forgetCounts : Cond.instanceMethod yX12_forgetCounts ∈ AW := (aw_t7 199 rfl rfl)
set_option maxRecDepth 100000 in
theorem yv_X12_forgetCounts : Cond.selects RX12 yX12_forgetCounts yX12_forgetCounts ∈ AW := (aw_tP 58 rfl rfl)
theorem yh_X12_forgetCounts : Ymh yX12_forgetCounts 1 := ⟨by decide, by decide, by decide +kernel⟩
set_option maxRecDepth 100000 in
theorem yk_X12_getsInView : Cond.code yX12_getsInView cX12_getsInView 4 none ∈ AW := (aw_t8 82 rfl rfl)
set_option maxRecDepth 100000 in
theorem yi_X12_getsInView : Cond.instanceMethod yX12_getsInView ∈ AW := (aw_t8 81 rfl rfl)
set_option maxRecDepth 100000 in
theorem yv_X12_getsInView : Cond.selects RX12 yX12_getsInView yX12_getsInView ∈ AW := (aw_tP 87 rfl rfl)
theorem yh_X12_getsInView : Ymh yX12_getsInView 2 := ⟨by decide, by decide, by decide +kernel⟩
set_option maxRecDepth 100000 in
theorem yk_X12_getsStamped : Cond.code yX12_getsStamped cX12_getsStamped 4 none ∈ AW := (aw_t7 192 rfl rfl)
set_option maxRecDepth 100000 in
theorem yi_X12_getsStamped : Cond.instanceMethod yX12_getsStamped ∈ AW := (aw_t7 191 rfl rfl)
set_option maxRecDepth 100000 in
theorem yv_X12_getsStamped : Cond.selects RX12 yX12_getsStamped yX12_getsStamped ∈ AW := (aw_tP 56 rfl rfl)
theorem yh_X12_getsStamped : Ymh yX12_getsStamped 1 := ⟨by decide, by decide, by decide +kernel⟩
set_option maxRecDepth 100000 in
theorem yk_X12_getsStart : Cond.code yX12_getsStart cX12_getsStart 3 none ∈ AW := (aw_t8 74 rfl rfl)
set_option maxRecDepth 100000 in
theorem yi_X12_getsStart : Cond.instanceMethod yX12_getsStart ∈ AW := (aw_t8 73 rfl rfl)
set_option maxRecDepth 100000 in
theorem yv_X12_getsStart : Cond.selects RX12 yX12_getsStart yX12_getsStart ∈ AW := (aw_tP 85 rfl rfl)
theorem yh_X12_getsStart : Ymh yX12_getsStart 2 := ⟨by decide, by decide, by decide +kernel⟩
set_option maxRecDepth 100000 in
theorem yk_X12_getsTurned : Cond.code yX12_getsTurned cX12_getsTurned 3 none ∈ AW := (aw_t8 35 rfl rfl)
set_option maxRecDepth 100000 in
theorem yi_X12_getsTurned : Cond.instanceMethod yX12_getsTurned ∈ AW := (aw_t8 34 rfl rfl)
set_option maxRecDepth 100000 in
theorem yv_X12_getsTurned : Cond.selects RX12 yX12_getsTurned yX12_getsTurned ∈ AW := (aw_tP 76 rfl rfl)
theorem yh_X12_getsTurned : Ymh yX12_getsTurned 1 := ⟨by decide, by decide, by decide +kernel⟩
set_option maxRecDepth 100000 in
theorem yk_X12_goOn : Cond.code yX12_goOn cX12_goOn 2 none ∈ AW := (aw_t8 150 rfl rfl)
set_option maxRecDepth 100000 in
theorem yi_X12_goOn : Cond.instanceMethod yX12_goOn ∈ AW := (aw_t8 149 rfl rfl)
set_option maxRecDepth 100000 in
theorem yv_X12_goOn : Cond.selects RX12 yX12_goOn yX12_goOn ∈ AW := (aw_tP 96 rfl rfl)
theorem yh_X12_goOn : Ymh yX12_goOn 0 := ⟨by decide, by decide, by decide +kernel⟩
set_option maxRecDepth 100000 in
theorem yk_X12_hand : Cond.code yX12_hand cX12_hand 4 none ∈ AW := (aw_t7 165 rfl rfl)
set_option maxRecDepth 100000 in
theorem yi_X12_hand : Cond.instanceMethod yX12_hand ∈ AW := (aw_t7 164 rfl rfl)
set_option maxRecDepth 100000 in
theorem yv_X12_hand : Cond.selects RX12 yX12_hand yX12_hand ∈ AW := (aw_tP 50 rfl rfl)
theorem yh_X12_hand : Ymh yX12_hand 1 := ⟨by decide, by decide, by decide +kernel⟩
set_option maxRecDepth 100000 in
theorem yk_X12_hasLog : Cond.code yX12_hasLog cX12_hasLog 1 (some .boolean) ∈ AW := (aw_t8 227 rfl rfl)
set_option maxRecDepth 100000 in
theorem ys_X12_hasLog : Cond.static yX12_hasLog ∈ AW := (aw_t8 226 rfl rfl)
theorem yh_X12_hasLog : Ymh yX12_hasLog 1 := ⟨by decide, by decide, by decide +kernel⟩
set_option maxRecDepth 100000 in
theorem yk_X12_hasRequest : Cond.code yX12_hasRequest cX12_hasRequest 1 (some .boolean) ∈ AW := (aw_t8 216 rfl rfl)
set_option maxRecDepth 100000 in
theorem ys_X12_hasRequest : Cond.static yX12_hasRequest ∈ AW := (aw_t8 215 rfl rfl)
theorem yh_X12_hasRequest : Ymh yX12_hasRequest 1 := ⟨by decide, by decide, by decide +kernel⟩
set_option maxRecDepth 100000 in
theorem yk_X12_heldAt : Cond.code yX12_heldAt cX12_heldAt 4 (some .int) ∈ AW := (aw_t7 232 rfl rfl)
set_option maxRecDepth 100000 in
theorem yi_X12_heldAt : Cond.instanceMethod yX12_heldAt ∈ AW := (aw_t7 231 rfl rfl)
set_option maxRecDepth 100000 in
theorem yv_X12_heldAt : Cond.selects RX12 yX12_heldAt yX12_heldAt ∈ AW := (aw_tP 66 rfl rfl)
theorem yh_X12_heldAt : Ymh yX12_heldAt 2 := ⟨by decide, by decide, by decide +kernel⟩
set_option maxRecDepth 100000 in
theorem yk_X12_hold : Cond.code yX12_hold cX12_hold 5 none ∈ AW := (aw_t7 236 rfl rfl)
set_option maxRecDepth 100000 in
theorem yi_X12_hold : Cond.instanceMethod yX12_hold ∈ AW := (aw_t7 235 rfl rfl)
set_option maxRecDepth 100000 in
theorem yv_X12_hold : Cond.selects RX12 yX12_hold yX12_hold ∈ AW := (aw_tP 67 rfl rfl)
theorem yh_X12_hold : Ymh yX12_hold 3 := ⟨by decide, by decide, by decide +kernel⟩
set_option maxRecDepth 100000 in
theorem yk_X12_image : Cond.code yX12_image cX12_image 4 (some .int) ∈ AW := (aw_t8 239 rfl rfl)
set_option maxRecDepth 100000 in
theorem yi_X12_image : Cond.instanceMethod yX12_image ∈ AW := (aw_t8 237 rfl rfl)
set_option maxRecDepth 100000 in
theorem yv_X12_image : Cond.selects RX12 yX12_image yX12_image ∈ AW := (aw_t8 238 rfl rfl)
theorem yh_X12_image : Ymh yX12_image 1 := ⟨by decide, by decide, by decide +kernel⟩
set_option maxRecDepth 100000 in
theorem yk_X12_in : Cond.code yX12_in cX12_in 3 (some .boolean) ∈ AW := (aw_t7 129 rfl rfl)
set_option maxRecDepth 100000 in
theorem ys_X12_in : Cond.static yX12_in ∈ AW := (aw_t7 128 rfl rfl)
theorem yh_X12_in : Ymh yX12_in 3 := ⟨by decide, by decide, by decide +kernel⟩
set_option maxRecDepth 100000 in
theorem yk_X12_inTurn : Cond.code yX12_inTurn cX12_inTurn 2 (some .int) ∈ AW := (aw_t8 54 rfl rfl)
set_option maxRecDepth 100000 in
theorem ys_X12_inTurn : Cond.static yX12_inTurn ∈ AW := (aw_t8 53 rfl rfl)
theorem yh_X12_inTurn : Ymh yX12_inTurn 2 := ⟨by decide, by decide, by decide +kernel⟩
set_option maxRecDepth 100000 in
theorem yk_X12_init : Cond.code yX12_init cX12_init 4 none ∈ AW := (aw_t6 52 rfl rfl)
set_option maxRecDepth 100000 in
theorem yi_X12_init : Cond.instanceMethod yX12_init ∈ AW := (aw_t6 51 rfl rfl)
theorem yh_X12_init : Ymh yX12_init 2 := ⟨by decide, by decide, by decide +kernel⟩
set_option maxRecDepth 100000 in
theorem yk_X12_install : Cond.code yX12_install cX12_install 1 (some .int) ∈ AW := (aw_t8 170 rfl rfl)
set_option maxRecDepth 100000 in
theorem yi_X12_install : Cond.instanceMethod yX12_install ∈ AW := (aw_t8 168 rfl rfl)
set_option maxRecDepth 100000 in
theorem yv_X12_install : Cond.selects RX12 yX12_install yX12_install ∈ AW := (aw_t8 169 rfl rfl)
theorem yh_X12_install : Ymh yX12_install 0 := ⟨by decide, by decide, by decide +kernel⟩
set_option maxRecDepth 100000 in
theorem yk_X12_isBehind : Cond.code yX12_isBehind cX12_isBehind 4 (some .boolean) ∈ AW := (aw_t8 31 rfl rfl)
set_option maxRecDepth 100000 in
theorem ys_X12_isBehind : Cond.static yX12_isBehind ∈ AW := (aw_t8 30 rfl rfl)
theorem yh_X12_isBehind : Ymh yX12_isBehind 4 := ⟨by decide, by decide, by decide +kernel⟩
set_option maxRecDepth 100000 in
theorem yk_X12_isClient : Cond.code yX12_isClient cX12_isClient 1 (some .boolean) ∈ AW := (aw_t7 126 rfl rfl)
set_option maxRecDepth 100000 in
theorem ys_X12_isClient : Cond.static yX12_isClient ∈ AW := (aw_t7 125 rfl rfl)
theorem yh_X12_isClient : Ymh yX12_isClient 1 := ⟨by decide, by decide, by decide +kernel⟩
set_option maxRecDepth 100000 in
theorem yk_X12_isKept : Cond.code yX12_isKept cX12_isKept 3 (some .boolean) ∈ AW := (aw_t9 85 rfl rfl)
set_option maxRecDepth 100000 in
theorem yi_X12_isKept : Cond.instanceMethod yX12_isKept ∈ AW := (aw_t9 84 rfl rfl)
set_option maxRecDepth 100000 in
theorem yv_X12_isKept : Cond.selects RX12 yX12_isKept yX12_isKept ∈ AW := (aw_tP 116 rfl rfl)
theorem yh_X12_isKept : Ymh yX12_isKept 2 := ⟨by decide, by decide, by decide +kernel⟩
set_option maxRecDepth 100000 in
theorem yk_X12_isLookedAt : Cond.code yX12_isLookedAt cX12_isLookedAt 5 (some .boolean) ∈ AW := (aw_t8 58 rfl rfl)
set_option maxRecDepth 100000 in
theorem yi_X12_isLookedAt : Cond.instanceMethod yX12_isLookedAt ∈ AW := (aw_t8 57 rfl rfl)
set_option maxRecDepth 100000 in
theorem yv_X12_isLookedAt : Cond.selects RX12 yX12_isLookedAt yX12_isLookedAt ∈ AW := (aw_tP 81 rfl rfl)
theorem yh_X12_isLookedAt : Ymh yX12_isLookedAt 2 := ⟨by decide, by decide, by decide +kernel⟩
set_option maxRecDepth 100000 in
theorem yk_X12_isReplica : Cond.code yX12_isReplica cX12_isReplica 2 (some .boolean) ∈ AW := (aw_t8 114 rfl rfl)
set_option maxRecDepth 100000 in
theorem yi_X12_isReplica : Cond.instanceMethod yX12_isReplica ∈ AW := (aw_t8 113 rfl rfl)
set_option maxRecDepth 100000 in
theorem yv_X12_isReplica : Cond.selects RX12 yX12_isReplica yX12_isReplica ∈ AW := (aw_tP 92 rfl rfl)
theorem yh_X12_isReplica : Ymh yX12_isReplica 1 := ⟨by decide, by decide, by decide +kernel⟩
set_option maxRecDepth 100000 in
theorem yk_X12_joins : Cond.code yX12_joins cX12_joins 5 none ∈ AW := (aw_t8 28 rfl rfl)
set_option maxRecDepth 100000 in
theorem yi_X12_joins : Cond.instanceMethod yX12_joins ∈ AW := (aw_t8 27 rfl rfl)
set_option maxRecDepth 100000 in
theorem yv_X12_joins : Cond.selects RX12 yX12_joins yX12_joins ∈ AW := (aw_tP 75 rfl rfl)
theorem yh_X12_joins : Ymh yX12_joins 3 := ⟨by decide, by decide, by decide +kernel⟩
set_option maxRecDepth 100000 in
theorem yk_X12_keep : Cond.code yX12_keep cX12_keep 2 none ∈ AW := (aw_t9 40 rfl rfl)
set_option maxRecDepth 100000 in
theorem yi_X12_keep : Cond.instanceMethod yX12_keep ∈ AW := (aw_t9 39 rfl rfl)
set_option maxRecDepth 100000 in
theorem yv_X12_keep : Cond.selects RX12 yX12_keep yX12_keep ∈ AW := (aw_tP 109 rfl rfl)
theorem yh_X12_keep : Ymh yX12_keep 1 := ⟨by decide, by decide, by decide +kernel⟩
set_option maxRecDepth 100000 in
theorem yk_X12_keepOwn : Cond.code yX12_keepOwn cX12_keepOwn 6 none ∈ AW := (aw_t8 47 rfl rfl)
set_option maxRecDepth 100000 in
theorem yi_X12_keepOwn : Cond.instanceMethod yX12_keepOwn ∈ AW := (aw_t8 46 rfl rfl)
set_option maxRecDepth 100000 in
theorem yv_X12_keepOwn : Cond.selects RX12 yX12_keepOwn yX12_keepOwn ∈ AW := (aw_tP 79 rfl rfl)
theorem yh_X12_keepOwn : Ymh yX12_keepOwn 1 := ⟨by decide, by decide, by decide +kernel⟩
set_option maxRecDepth 100000 in
theorem yk_X12_keepTurned : Cond.code yX12_keepTurned cX12_keepTurned 7 none ∈ AW := (aw_t8 39 rfl rfl)
set_option maxRecDepth 100000 in
theorem yi_X12_keepTurned : Cond.instanceMethod yX12_keepTurned ∈ AW := (aw_t8 38 rfl rfl)
set_option maxRecDepth 100000 in
theorem yv_X12_keepTurned : Cond.selects RX12 yX12_keepTurned yX12_keepTurned ∈ AW := (aw_tP 77 rfl rfl)
theorem yh_X12_keepTurned : Ymh yX12_keepTurned 2 := ⟨by decide, by decide, by decide +kernel⟩
set_option maxRecDepth 100000 in
theorem yk_X12_leader : Cond.code yX12_leader cX12_leader 2 (some .int) ∈ AW := (aw_t7 224 rfl rfl)
set_option maxRecDepth 100000 in
theorem yi_X12_leader : Cond.instanceMethod yX12_leader ∈ AW := (aw_t7 223 rfl rfl)
set_option maxRecDepth 100000 in
theorem yv_X12_leader : Cond.selects RX12 yX12_leader yX12_leader ∈ AW := (aw_tP 64 rfl rfl)
theorem yh_X12_leader : Ymh yX12_leader 1 := ⟨by decide, by decide, by decide +kernel⟩
set_option maxRecDepth 100000 in
theorem yk_X12_leads : Cond.code yX12_leads cX12_leads 2 (some .boolean) ∈ AW := (aw_t7 220 rfl rfl)
set_option maxRecDepth 100000 in
theorem yi_X12_leads : Cond.instanceMethod yX12_leads ∈ AW := (aw_t7 219 rfl rfl)
set_option maxRecDepth 100000 in
theorem yv_X12_leads : Cond.selects RX12 yX12_leads yX12_leads ∈ AW := (aw_tP 63 rfl rfl)
theorem yh_X12_leads : Ymh yX12_leads 1 := ⟨by decide, by decide, by decide +kernel⟩
set_option maxRecDepth 100000 in
theorem yk_X12_lookUp : Cond.code yX12_lookUp cX12_lookUp 5 none ∈ AW := (aw_t8 86 rfl rfl)
set_option maxRecDepth 100000 in
theorem yi_X12_lookUp : Cond.instanceMethod yX12_lookUp ∈ AW := (aw_t8 85 rfl rfl)
set_option maxRecDepth 100000 in
theorem yv_X12_lookUp : Cond.selects RX12 yX12_lookUp yX12_lookUp ∈ AW := (aw_tP 88 rfl rfl)
theorem yh_X12_lookUp : Ymh yX12_lookUp 2 := ⟨by decide, by decide, by decide +kernel⟩
set_option maxRecDepth 100000 in
theorem yk_X12_lose : Cond.code yX12_lose cX12_lose 4 none ∈ AW := (aw_t8 102 rfl rfl)
set_option maxRecDepth 100000 in
theorem yi_X12_lose : Cond.instanceMethod yX12_lose ∈ AW := (aw_t8 100 rfl rfl)
set_option maxRecDepth 100000 in
theorem yv_X12_lose : Cond.selects RX12 yX12_lose yX12_lose ∈ AW := (aw_t8 101 rfl rfl)
theorem yh_X12_lose : Ymh yX12_lose 1 := ⟨by decide, by decide, by decide +kernel⟩
set_option maxRecDepth 100000 in
theorem yk_X12_mergeSlot : Cond.code yX12_mergeSlot cX12_mergeSlot 9 none ∈ AW := (aw_t8 62 rfl rfl)
set_option maxRecDepth 100000 in
theorem yi_X12_mergeSlot : Cond.instanceMethod yX12_mergeSlot ∈ AW := (aw_t8 61 rfl rfl)
set_option maxRecDepth 100000 in
theorem yv_X12_mergeSlot : Cond.selects RX12 yX12_mergeSlot yX12_mergeSlot ∈ AW := (aw_tP 82 rfl rfl)
theorem yh_X12_mergeSlot : Ymh yX12_mergeSlot 2 := ⟨by decide, by decide, by decide +kernel⟩
set_option maxRecDepth 100000 in
theorem yk_X12_merges : Cond.code yX12_merges cX12_merges 7 none ∈ AW := (aw_t8 43 rfl rfl)
set_option maxRecDepth 100000 in
theorem yi_X12_merges : Cond.instanceMethod yX12_merges ∈ AW := (aw_t8 42 rfl rfl)
set_option maxRecDepth 100000 in
theorem yv_X12_merges : Cond.selects RX12 yX12_merges yX12_merges ∈ AW := (aw_tP 78 rfl rfl)
theorem yh_X12_merges : Ymh yX12_merges 1 := ⟨by decide, by decide, by decide +kernel⟩
set_option maxRecDepth 100000 in
theorem yk_X12_message : Cond.code yX12_message cX12_message 5 (some .int) ∈ AW := (aw_t8 198 rfl rfl)
set_option maxRecDepth 100000 in
theorem yi_X12_message : Cond.instanceMethod yX12_message ∈ AW := (aw_t8 196 rfl rfl)
set_option maxRecDepth 100000 in
theorem yv_X12_message : Cond.selects RX12 yX12_message yX12_message ∈ AW := (aw_t8 197 rfl rfl)
theorem yh_X12_message : Ymh yX12_message 2 := ⟨by decide, by decide, by decide +kernel⟩
set_option maxRecDepth 100000 in
theorem yk_X12_modulo : Cond.code yX12_modulo cX12_modulo 3 (some .int) ∈ AW := (aw_t6 57 rfl rfl)
set_option maxRecDepth 100000 in
theorem ys_X12_modulo : Cond.static yX12_modulo ∈ AW := (aw_t6 56 rfl rfl)
theorem yh_X12_modulo : Ymh yX12_modulo 2 := ⟨by decide, by decide, by decide +kernel⟩
set_option maxRecDepth 100000 in
theorem yk_X12_next : Cond.code yX12_next cX12_next 1 (some .int) ∈ AW := (aw_t9 32 rfl rfl)
set_option maxRecDepth 100000 in
theorem yi_X12_next : Cond.instanceMethod yX12_next ∈ AW := (aw_t9 31 rfl rfl)
set_option maxRecDepth 100000 in
theorem yv_X12_next : Cond.selects RX12 yX12_next yX12_next ∈ AW := (aw_tP 107 rfl rfl)
theorem yh_X12_next : Ymh yX12_next 0 := ⟨by decide, by decide, by decide +kernel⟩
set_option maxRecDepth 100000 in
theorem yk_X12_nextWord : Cond.code yX12_nextWord cX12_nextWord 3 (some .int) ∈ AW := (aw_t9 57 rfl rfl)
set_option maxRecDepth 100000 in
theorem yi_X12_nextWord : Cond.instanceMethod yX12_nextWord ∈ AW := (aw_t9 56 rfl rfl)
set_option maxRecDepth 100000 in
theorem yv_X12_nextWord : Cond.selects RX12 yX12_nextWord yX12_nextWord ∈ AW := (aw_tP 113 rfl rfl)
theorem yh_X12_nextWord : Ymh yX12_nextWord 0 := ⟨by decide, by decide, by decide +kernel⟩
set_option maxRecDepth 100000 in
theorem yk_X12_nudge : Cond.code yX12_nudge cX12_nudge 3 (some .int) ∈ AW := (aw_t8 130 rfl rfl)
set_option maxRecDepth 100000 in
theorem yi_X12_nudge : Cond.instanceMethod yX12_nudge ∈ AW := (aw_t8 128 rfl rfl)
set_option maxRecDepth 100000 in
theorem yv_X12_nudge : Cond.selects RX12 yX12_nudge yX12_nudge ∈ AW := (aw_t8 129 rfl rfl)
theorem yh_X12_nudge : Ymh yX12_nudge 1 := ⟨by decide, by decide, by decide +kernel⟩
set_option maxRecDepth 100000 in
theorem yk_X12_numbers : Cond.code yX12_numbers cX12_numbers 1 (some .int) ∈ AW := (aw_t8 209 rfl rfl)
set_option maxRecDepth 100000 in
theorem ys_X12_numbers : Cond.static yX12_numbers ∈ AW := (aw_t8 208 rfl rfl)
theorem yh_X12_numbers : Ymh yX12_numbers 1 := ⟨by decide, by decide, by decide +kernel⟩
set_option maxRecDepth 100000 in
theorem yk_X12_output : Cond.code yX12_output cX12_output 2 (some .int) ∈ AW := (aw_t9 11 rfl rfl)
set_option maxRecDepth 100000 in
theorem yi_X12_output : Cond.instanceMethod yX12_output ∈ AW := (aw_t9 9 rfl rfl)
set_option maxRecDepth 100000 in
theorem yv_X12_output : Cond.selects RX12 yX12_output yX12_output ∈ AW := (aw_t9 10 rfl rfl)
theorem yh_X12_output : Ymh yX12_output 1 := ⟨by decide, by decide, by decide +kernel⟩
set_option maxRecDepth 100000 in
theorem yk_X12_placeOf : Cond.code yX12_placeOf cX12_placeOf 6 (some .int) ∈ AW := (aw_t7 177 rfl rfl)
set_option maxRecDepth 100000 in
theorem yi_X12_placeOf : Cond.instanceMethod yX12_placeOf ∈ AW := (aw_t7 176 rfl rfl)
set_option maxRecDepth 100000 in
theorem yv_X12_placeOf : Cond.selects RX12 yX12_placeOf yX12_placeOf ∈ AW := (aw_tP 53 rfl rfl)
theorem yh_X12_placeOf : Ymh yX12_placeOf 4 := ⟨by decide, by decide, by decide +kernel⟩
set_option maxRecDepth 100000 in
theorem yk_X12_post : Cond.code yX12_post cX12_post 3 none ∈ AW := (aw_t7 149 rfl rfl)
set_option maxRecDepth 100000 in
theorem yi_X12_post : Cond.instanceMethod yX12_post ∈ AW := (aw_t7 148 rfl rfl)
set_option maxRecDepth 100000 in
theorem yv_X12_post : Cond.selects RX12 yX12_post yX12_post ∈ AW := (aw_tP 48 rfl rfl)
theorem yh_X12_post : Ymh yX12_post 0 := ⟨by decide, by decide, by decide +kernel⟩
set_option maxRecDepth 100000 in
theorem yk_X12_put : Cond.code yX12_put cX12_put 5 (some .boolean) ∈ AW := (aw_t9 15 rfl rfl)
set_option maxRecDepth 100000 in
theorem yi_X12_put : Cond.instanceMethod yX12_put ∈ AW := (aw_t9 13 rfl rfl)
set_option maxRecDepth 100000 in
theorem yv_X12_put : Cond.selects RX12 yX12_put yX12_put ∈ AW := (aw_t9 14 rfl rfl)
theorem yh_X12_put : Ymh yX12_put 2 := ⟨by decide, by decide, by decide +kernel⟩
set_option maxRecDepth 100000 in
theorem yk_X12_readByte : Cond.code yX12_readByte cX12_readByte 4 (some .int) ∈ AW := (aw_t9 28 rfl rfl)
set_option maxRecDepth 100000 in
theorem yi_X12_readByte : Cond.instanceMethod yX12_readByte ∈ AW := (aw_t9 27 rfl rfl)
set_option maxRecDepth 100000 in
theorem yv_X12_readByte : Cond.selects RX12 yX12_readByte yX12_readByte ∈ AW := (aw_tP 106 rfl rfl)
theorem yh_X12_readByte : Ymh yX12_readByte 1 := ⟨by decide, by decide, by decide +kernel⟩
set_option maxRecDepth 100000 in
theorem yk_X12_readEnd : Cond.code yX12_readEnd cX12_readEnd 5 none ∈ AW := (aw_t9 44 rfl rfl)
set_option maxRecDepth 100000 in
theorem yi_X12_readEnd : Cond.instanceMethod yX12_readEnd ∈ AW := (aw_t9 43 rfl rfl)
set_option maxRecDepth 100000 in
theorem yv_X12_readEnd : Cond.selects RX12 yX12_readEnd yX12_readEnd ∈ AW := (aw_tP 110 rfl rfl)
theorem yh_X12_readEnd : Ymh yX12_readEnd 1 := ⟨by decide, by decide, by decide +kernel⟩
set_option maxRecDepth 100000 in
theorem yk_X12_readEntries : Cond.code yX12_readEntries cX12_readEntries 7 none ∈ AW := (aw_t8 78 rfl rfl)
set_option maxRecDepth 100000 in
theorem yi_X12_readEntries : Cond.instanceMethod yX12_readEntries ∈ AW := (aw_t8 77 rfl rfl)
set_option maxRecDepth 100000 in
theorem yv_X12_readEntries : Cond.selects RX12 yX12_readEntries yX12_readEntries ∈ AW := (aw_tP 86 rfl rfl)
theorem yh_X12_readEntries : Ymh yX12_readEntries 3 := ⟨by decide, by decide, by decide +kernel⟩
set_option maxRecDepth 100000 in
theorem yk_X12_readLog : Cond.code yX12_readLog cX12_readLog 4 none ∈ AW := (aw_t9 61 rfl rfl)
set_option maxRecDepth 100000 in
theorem yi_X12_readLog : Cond.instanceMethod yX12_readLog ∈ AW := (aw_t9 60 rfl rfl)
set_option maxRecDepth 100000 in
theorem yv_X12_readLog : Cond.selects RX12 yX12_readLog yX12_readLog ∈ AW := (aw_tP 114 rfl rfl)
theorem yh_X12_readLog : Ymh yX12_readLog 0 := ⟨by decide, by decide, by decide +kernel⟩
set_option maxRecDepth 100000 in
theorem yk_X12_readNumber : Cond.code yX12_readNumber cX12_readNumber 8 (some .int) ∈ AW := (aw_t9 48 rfl rfl)
set_option maxRecDepth 100000 in
theorem yi_X12_readNumber : Cond.instanceMethod yX12_readNumber ∈ AW := (aw_t9 47 rfl rfl)
set_option maxRecDepth 100000 in
theorem yv_X12_readNumber : Cond.selects RX12 yX12_readNumber yX12_readNumber ∈ AW := (aw_tP 111 rfl rfl)
theorem yh_X12_readNumber : Ymh yX12_readNumber 0 := ⟨by decide, by decide, by decide +kernel⟩
set_option maxRecDepth 100000 in
theorem yk_X12_readRequest : Cond.code yX12_readRequest cX12_readRequest 5 none ∈ AW := (aw_t9 53 rfl rfl)
set_option maxRecDepth 100000 in
theorem yi_X12_readRequest : Cond.instanceMethod yX12_readRequest ∈ AW := (aw_t9 52 rfl rfl)
set_option maxRecDepth 100000 in
theorem yv_X12_readRequest : Cond.selects RX12 yX12_readRequest yX12_readRequest ∈ AW := (aw_tP 112 rfl rfl)
theorem yh_X12_readRequest : Ymh yX12_readRequest 0 := ⟨by decide, by decide, by decide +kernel⟩
set_option maxRecDepth 100000 in
theorem yk_X12_refuse : Cond.code yX12_refuse cX12_refuse 2 (some .int) ∈ AW := (aw_t7 133 rfl rfl)
set_option maxRecDepth 100000 in
theorem yi_X12_refuse : Cond.instanceMethod yX12_refuse ∈ AW := (aw_t7 132 rfl rfl)
set_option maxRecDepth 100000 in
theorem yv_X12_refuse : Cond.selects RX12 yX12_refuse yX12_refuse ∈ AW := (aw_tP 44 rfl rfl)
theorem yh_X12_refuse : Ymh yX12_refuse 1 := ⟨by decide, by decide, by decide +kernel⟩
set_option maxRecDepth 100000 in
theorem yk_X12_remove : Cond.code yX12_remove cX12_remove 4 (some .int) ∈ AW := (aw_t7 169 rfl rfl)
set_option maxRecDepth 100000 in
theorem yi_X12_remove : Cond.instanceMethod yX12_remove ∈ AW := (aw_t7 168 rfl rfl)
set_option maxRecDepth 100000 in
theorem yv_X12_remove : Cond.selects RX12 yX12_remove yX12_remove ∈ AW := (aw_tP 51 rfl rfl)
theorem yh_X12_remove : Ymh yX12_remove 1 := ⟨by decide, by decide, by decide +kernel⟩
set_option maxRecDepth 100000 in
theorem yk_X12_replica : Cond.code yX12_replica cX12_replica 3 (some .int) ∈ AW := (aw_t8 174 rfl rfl)
set_option maxRecDepth 100000 in
theorem yi_X12_replica : Cond.instanceMethod yX12_replica ∈ AW := (aw_t8 172 rfl rfl)
set_option maxRecDepth 100000 in
theorem yv_X12_replica : Cond.selects RX12 yX12_replica yX12_replica ∈ AW := (aw_t8 173 rfl rfl)
theorem yh_X12_replica : Ymh yX12_replica 2 := ⟨by decide, by decide, by decide +kernel⟩
set_option maxRecDepth 100000 in
theorem yk_X12_replicaGets : Cond.code yX12_replicaGets cX12_replicaGets 4 none ∈ AW := (aw_t7 188 rfl rfl)
set_option maxRecDepth 100000 in
theorem yi_X12_replicaGets : Cond.instanceMethod yX12_replicaGets ∈ AW := (aw_t7 187 rfl rfl)
set_option maxRecDepth 100000 in
theorem yv_X12_replicaGets : Cond.selects RX12 yX12_replicaGets yX12_replicaGets ∈ AW := (aw_tP 55 rfl rfl)
theorem yh_X12_replicaGets : Ymh yX12_replicaGets 1 := ⟨by decide, by decide, by decide +kernel⟩
set_option maxRecDepth 100000 in
theorem yk_X12_replyGap : Cond.code yX12_replyGap cX12_replyGap 2 none ∈ AW := (aw_t8 94 rfl rfl)
set_option maxRecDepth 100000 in
theorem yi_X12_replyGap : Cond.instanceMethod yX12_replyGap ∈ AW := (aw_t8 93 rfl rfl)
set_option maxRecDepth 100000 in
theorem yv_X12_replyGap : Cond.selects RX12 yX12_replyGap yX12_replyGap ∈ AW := (aw_tP 90 rfl rfl)
theorem yh_X12_replyGap : Ymh yX12_replyGap 1 := ⟨by decide, by decide, by decide +kernel⟩
set_option maxRecDepth 100000 in
theorem yk_X12_replySync : Cond.code yX12_replySync cX12_replySync 3 none ∈ AW := (aw_t8 98 rfl rfl)
set_option maxRecDepth 100000 in
theorem yi_X12_replySync : Cond.instanceMethod yX12_replySync ∈ AW := (aw_t8 97 rfl rfl)
set_option maxRecDepth 100000 in
theorem yv_X12_replySync : Cond.selects RX12 yX12_replySync yX12_replySync ∈ AW := (aw_tP 91 rfl rfl)
theorem yh_X12_replySync : Ymh yX12_replySync 2 := ⟨by decide, by decide, by decide +kernel⟩
set_option maxRecDepth 100000 in
theorem yk_X12_request : Cond.code yX12_request cX12_request 5 (some .int) ∈ AW := (aw_t7 123 rfl rfl)
set_option maxRecDepth 100000 in
theorem yi_X12_request : Cond.instanceMethod yX12_request ∈ AW := (aw_t7 121 rfl rfl)
set_option maxRecDepth 100000 in
theorem yv_X12_request : Cond.selects RX12 yX12_request yX12_request ∈ AW := (aw_t7 122 rfl rfl)
theorem yh_X12_request : Ymh yX12_request 4 := ⟨by decide, by decide, by decide +kernel⟩
set_option maxRecDepth 100000 in
theorem yk_X12_restart : Cond.code yX12_restart cX12_restart 2 none ∈ AW := (aw_t8 16 rfl rfl)
set_option maxRecDepth 100000 in
theorem yi_X12_restart : Cond.instanceMethod yX12_restart ∈ AW := (aw_t8 15 rfl rfl)
set_option maxRecDepth 100000 in
theorem yv_X12_restart : Cond.selects RX12 yX12_restart yX12_restart ∈ AW := (aw_tP 72 rfl rfl)
theorem yh_X12_restart : Ymh yX12_restart 0 := ⟨by decide, by decide, by decide +kernel⟩
set_option maxRecDepth 100000 in
theorem yk_X12_sendStart : Cond.code yX12_sendStart cX12_sendStart 3 none ∈ AW := (aw_t8 70 rfl rfl)
set_option maxRecDepth 100000 in
theorem yi_X12_sendStart : Cond.instanceMethod yX12_sendStart ∈ AW := (aw_t8 69 rfl rfl)
set_option maxRecDepth 100000 in
theorem yv_X12_sendStart : Cond.selects RX12 yX12_sendStart yX12_sendStart ∈ AW := (aw_tP 84 rfl rfl)
theorem yh_X12_sendStart : Ymh yX12_sendStart 2 := ⟨by decide, by decide, by decide +kernel⟩
set_option maxRecDepth 100000 in
theorem yk_X12_sendTurned : Cond.code yX12_sendTurned cX12_sendTurned 2 none ∈ AW := (aw_t7 216 rfl rfl)
set_option maxRecDepth 100000 in
theorem yi_X12_sendTurned : Cond.instanceMethod yX12_sendTurned ∈ AW := (aw_t7 215 rfl rfl)
set_option maxRecDepth 100000 in
theorem yv_X12_sendTurned : Cond.selects RX12 yX12_sendTurned yX12_sendTurned ∈ AW := (aw_tP 62 rfl rfl)
theorem yh_X12_sendTurned : Ymh yX12_sendTurned 1 := ⟨by decide, by decide, by decide +kernel⟩
set_option maxRecDepth 100000 in
theorem yk_X12_speaksAgainst : Cond.code yX12_speaksAgainst cX12_speaksAgainst 6 (some .boolean) ∈ AW := (aw_t9 81 rfl rfl)
set_option maxRecDepth 100000 in
theorem yi_X12_speaksAgainst : Cond.instanceMethod yX12_speaksAgainst ∈ AW := (aw_t9 80 rfl rfl)
set_option maxRecDepth 100000 in
theorem yv_X12_speaksAgainst : Cond.selects RX12 yX12_speaksAgainst yX12_speaksAgainst ∈ AW := (aw_tP 115 rfl rfl)
theorem yh_X12_speaksAgainst : Ymh yX12_speaksAgainst 2 := ⟨by decide, by decide, by decide +kernel⟩
set_option maxRecDepth 100000 in
theorem yk_X12_stamp : Cond.code yX12_stamp cX12_stamp 3 none ∈ AW := (aw_t7 137 rfl rfl)
set_option maxRecDepth 100000 in
theorem yi_X12_stamp : Cond.instanceMethod yX12_stamp ∈ AW := (aw_t7 136 rfl rfl)
set_option maxRecDepth 100000 in
theorem yv_X12_stamp : Cond.selects RX12 yX12_stamp yX12_stamp ∈ AW := (aw_tP 45 rfl rfl)
theorem yh_X12_stamp : Ymh yX12_stamp 1 := ⟨by decide, by decide, by decide +kernel⟩
set_option maxRecDepth 100000 in
theorem yk_X12_sumOf : Cond.code yX12_sumOf cX12_sumOf 7 (some .int) ∈ AW := (aw_t8 234 rfl rfl)
set_option maxRecDepth 100000 in
theorem ys_X12_sumOf : Cond.static yX12_sumOf ∈ AW := (aw_t8 233 rfl rfl)
theorem yh_X12_sumOf : Ymh yX12_sumOf 3 := ⟨by decide, by decide, by decide +kernel⟩
set_option maxRecDepth 100000 in
theorem yk_X12_suspect : Cond.code yX12_suspect cX12_suspect 2 none ∈ AW := (aw_t8 126 rfl rfl)
set_option maxRecDepth 100000 in
theorem yi_X12_suspect : Cond.instanceMethod yX12_suspect ∈ AW := (aw_t8 124 rfl rfl)
set_option maxRecDepth 100000 in
theorem yv_X12_suspect : Cond.selects RX12 yX12_suspect yX12_suspect ∈ AW := (aw_t8 125 rfl rfl)
theorem yh_X12_suspect : Ymh yX12_suspect 1 := ⟨by decide, by decide, by decide +kernel⟩
set_option maxRecDepth 100000 in
theorem yk_X12_sync : Cond.code yX12_sync cX12_sync 2 none ∈ AW := (aw_t8 138 rfl rfl)
set_option maxRecDepth 100000 in
theorem yi_X12_sync : Cond.instanceMethod yX12_sync ∈ AW := (aw_t8 136 rfl rfl)
set_option maxRecDepth 100000 in
theorem yv_X12_sync : Cond.selects RX12 yX12_sync yX12_sync ∈ AW := (aw_t8 137 rfl rfl)
theorem yh_X12_sync : Ymh yX12_sync 1 := ⟨by decide, by decide, by decide +kernel⟩
set_option maxRecDepth 100000 in
theorem yk_X12_syncs : Cond.code yX12_syncs cX12_syncs 3 none ∈ AW := (aw_t8 142 rfl rfl)
set_option maxRecDepth 100000 in
theorem yi_X12_syncs : Cond.instanceMethod yX12_syncs ∈ AW := (aw_t8 141 rfl rfl)
set_option maxRecDepth 100000 in
theorem yv_X12_syncs : Cond.selects RX12 yX12_syncs yX12_syncs ∈ AW := (aw_tP 95 rfl rfl)
theorem yh_X12_syncs : Ymh yX12_syncs 1 := ⟨by decide, by decide, by decide +kernel⟩
set_option maxRecDepth 100000 in
theorem yk_X12_take : Cond.code yX12_take cX12_take 4 (some .int) ∈ AW := (aw_t9 20 rfl rfl)
set_option maxRecDepth 100000 in
theorem yi_X12_take : Cond.instanceMethod yX12_take ∈ AW := (aw_t9 18 rfl rfl)
set_option maxRecDepth 100000 in
theorem yv_X12_take : Cond.selects RX12 yX12_take yX12_take ∈ AW := (aw_t9 19 rfl rfl)
theorem yh_X12_take : Ymh yX12_take 2 := ⟨by decide, by decide, by decide +kernel⟩
set_option maxRecDepth 100000 in
theorem yk_X12_takeOne : Cond.code yX12_takeOne cX12_takeOne 6 none ∈ AW := (aw_t8 4 rfl rfl)
set_option maxRecDepth 100000 in
theorem yi_X12_takeOne : Cond.instanceMethod yX12_takeOne ∈ AW := (aw_t8 3 rfl rfl)
set_option maxRecDepth 100000 in
theorem yv_X12_takeOne : Cond.selects RX12 yX12_takeOne yX12_takeOne ∈ AW := (aw_tP 69 rfl rfl)
theorem yh_X12_takeOne : Ymh yX12_takeOne 2 := ⟨by decide, by decide, by decide +kernel⟩
set_option maxRecDepth 100000 in
theorem yk_X12_takes : Cond.code yX12_takes cX12_takes 3 none ∈ AW := (aw_t8 0 rfl rfl)
set_option maxRecDepth 100000 in
theorem yi_X12_takes : Cond.instanceMethod yX12_takes ∈ AW := (aw_t7 239 rfl rfl)
set_option maxRecDepth 100000 in
theorem yv_X12_takes : Cond.selects RX12 yX12_takes yX12_takes ∈ AW := (aw_tP 68 rfl rfl)
theorem yh_X12_takes : Ymh yX12_takes 1 := ⟨by decide, by decide, by decide +kernel⟩
set_option maxRecDepth 100000 in
theorem yk_X12_tell : Cond.code yX12_tell cX12_tell 5 none ∈ AW := (aw_t7 208 rfl rfl)
set_option maxRecDepth 100000 in
theorem yi_X12_tell : Cond.instanceMethod yX12_tell ∈ AW := (aw_t7 207 rfl rfl)
set_option maxRecDepth 100000 in
theorem yv_X12_tell : Cond.selects RX12 yX12_tell yX12_tell ∈ AW := (aw_tP 60 rfl rfl)
theorem yh_X12_tell : Ymh yX12_tell 4 := ⟨by decide, by decide, by decide +kernel⟩
set_option maxRecDepth 100000 in
theorem yk_X12_tellOthers : Cond.code yX12_tellOthers cX12_tellOthers 5 none ∈ AW := (aw_t7 204 rfl rfl)
set_option maxRecDepth 100000 in
theorem yi_X12_tellOthers : Cond.instanceMethod yX12_tellOthers ∈ AW := (aw_t7 203 rfl rfl)
set_option maxRecDepth 100000 in
theorem yv_X12_tellOthers : Cond.selects RX12 yX12_tellOthers yX12_tellOthers ∈ AW := (aw_tP 59 rfl rfl)
theorem yh_X12_tellOthers : Ymh yX12_tellOthers 3 := ⟨by decide, by decide, by decide +kernel⟩
set_option maxRecDepth 100000 in
theorem yk_X12_thrown : Cond.code yX12_thrown cX12_thrown 1 (some .int) ∈ AW := (aw_t7 119 rfl rfl)
set_option maxRecDepth 100000 in
theorem yi_X12_thrown : Cond.instanceMethod yX12_thrown ∈ AW := (aw_t7 117 rfl rfl)
set_option maxRecDepth 100000 in
theorem yv_X12_thrown : Cond.selects RX12 yX12_thrown yX12_thrown ∈ AW := (aw_t7 118 rfl rfl)
theorem yh_X12_thrown : Ymh yX12_thrown 0 := ⟨by decide, by decide, by decide +kernel⟩
set_option maxRecDepth 100000 in
theorem yk_X12_tick : Cond.code yX12_tick cX12_tick 4 (some .int) ∈ AW := (aw_t8 146 rfl rfl)
set_option maxRecDepth 100000 in
theorem yi_X12_tick : Cond.instanceMethod yX12_tick ∈ AW := (aw_t8 144 rfl rfl)
set_option maxRecDepth 100000 in
theorem yv_X12_tick : Cond.selects RX12 yX12_tick yX12_tick ∈ AW := (aw_t8 145 rfl rfl)
theorem yh_X12_tick : Ymh yX12_tick 1 := ⟨by decide, by decide, by decide +kernel⟩
set_option maxRecDepth 100000 in
theorem yk_X12_told : Cond.code yX12_told cX12_told 2 (some .int) ∈ AW := (aw_t9 69 rfl rfl)
set_option maxRecDepth 100000 in
theorem yi_X12_told : Cond.instanceMethod yX12_told ∈ AW := (aw_t9 67 rfl rfl)
set_option maxRecDepth 100000 in
theorem yv_X12_told : Cond.selects RX12 yX12_told yX12_told ∈ AW := (aw_t9 68 rfl rfl)
theorem yh_X12_told : Ymh yX12_told 1 := ⟨by decide, by decide, by decide +kernel⟩
set_option maxRecDepth 100000 in
theorem yk_X12_tolds : Cond.code yX12_tolds cX12_tolds 1 (some .int) ∈ AW := (aw_t9 73 rfl rfl)
set_option maxRecDepth 100000 in
theorem yi_X12_tolds : Cond.instanceMethod yX12_tolds ∈ AW := (aw_t9 71 rfl rfl)
set_option maxRecDepth 100000 in
theorem yv_X12_tolds : Cond.selects RX12 yX12_tolds yX12_tolds ∈ AW := (aw_t9 72 rfl rfl)
theorem yh_X12_tolds : Ymh yX12_tolds 0 := ⟨by decide, by decide, by decide +kernel⟩
set_option maxRecDepth 100000 in
theorem yk_X12_turnsTo : Cond.code yX12_turnsTo cX12_turnsTo 4 none ∈ AW := (aw_t7 196 rfl rfl)
set_option maxRecDepth 100000 in
theorem yi_X12_turnsTo : Cond.instanceMethod yX12_turnsTo ∈ AW := (aw_t7 195 rfl rfl)
set_option maxRecDepth 100000 in
theorem yv_X12_turnsTo : Cond.selects RX12 yX12_turnsTo yX12_turnsTo ∈ AW := (aw_tP 57 rfl rfl)
theorem yh_X12_turnsTo : Ymh yX12_turnsTo 3 := ⟨by decide, by decide, by decide +kernel⟩
set_option maxRecDepth 100000 in
theorem yk_X12_untake : Cond.code yX12_untake cX12_untake 4 (some .int) ∈ AW := (aw_t9 24 rfl rfl)
set_option maxRecDepth 100000 in
theorem yi_X12_untake : Cond.instanceMethod yX12_untake ∈ AW := (aw_t9 22 rfl rfl)
set_option maxRecDepth 100000 in
theorem yv_X12_untake : Cond.selects RX12 yX12_untake yX12_untake ∈ AW := (aw_t9 23 rfl rfl)
theorem yh_X12_untake : Ymh yX12_untake 0 := ⟨by decide, by decide, by decide +kernel⟩
set_option maxRecDepth 100000 in
theorem yk_X12_up : Cond.code yX12_up cX12_up 2 none ∈ AW := (aw_t8 122 rfl rfl)
set_option maxRecDepth 100000 in
theorem yi_X12_up : Cond.instanceMethod yX12_up ∈ AW := (aw_t8 120 rfl rfl)
set_option maxRecDepth 100000 in
theorem yv_X12_up : Cond.selects RX12 yX12_up yX12_up ∈ AW := (aw_t8 121 rfl rfl)
theorem yh_X12_up : Ymh yX12_up 1 := ⟨by decide, by decide, by decide +kernel⟩
set_option maxRecDepth 100000 in
theorem yk_X12_wire : Cond.code yX12_wire cX12_wire 6 (some .int) ∈ AW := (aw_t8 202 rfl rfl)
set_option maxRecDepth 100000 in
theorem yi_X12_wire : Cond.instanceMethod yX12_wire ∈ AW := (aw_t8 200 rfl rfl)
set_option maxRecDepth 100000 in
theorem yv_X12_wire : Cond.selects RX12 yX12_wire yX12_wire ∈ AW := (aw_t8 201 rfl rfl)
theorem yh_X12_wire : Ymh yX12_wire 1 := ⟨by decide, by decide, by decide +kernel⟩
set_option maxRecDepth 100000 in
theorem yk_X12_word : Cond.code yX12_word cX12_word 3 (some .int) ∈ AW := (aw_t8 182 rfl rfl)
set_option maxRecDepth 100000 in
theorem yi_X12_word : Cond.instanceMethod yX12_word ∈ AW := (aw_t8 180 rfl rfl)
set_option maxRecDepth 100000 in
theorem yv_X12_word : Cond.selects RX12 yX12_word yX12_word ∈ AW := (aw_t8 181 rfl rfl)
theorem yh_X12_word : Ymh yX12_word 2 := ⟨by decide, by decide, by decide +kernel⟩
set_option maxRecDepth 100000 in
theorem yk_X12_write : Cond.code yX12_write cX12_write 2 none ∈ AW := (aw_t8 206 rfl rfl)
set_option maxRecDepth 100000 in
theorem yi_X12_write : Cond.instanceMethod yX12_write ∈ AW := (aw_t8 205 rfl rfl)
set_option maxRecDepth 100000 in
theorem yv_X12_write : Cond.selects RX12 yX12_write yX12_write ∈ AW := (aw_tP 99 rfl rfl)
theorem yh_X12_write : Ymh yX12_write 1 := ⟨by decide, by decide, by decide +kernel⟩
set_option maxRecDepth 100000 in
theorem yk_X12_writeEntry : Cond.code yX12_writeEntry cX12_writeEntry 4 none ∈ AW := (aw_t9 7 rfl rfl)
set_option maxRecDepth 100000 in
theorem yi_X12_writeEntry : Cond.instanceMethod yX12_writeEntry ∈ AW := (aw_t9 6 rfl rfl)
set_option maxRecDepth 100000 in
theorem yv_X12_writeEntry : Cond.selects RX12 yX12_writeEntry yX12_writeEntry ∈ AW := (aw_tP 105 rfl rfl)
theorem yh_X12_writeEntry : Ymh yX12_writeEntry 2 := ⟨by decide, by decide, by decide +kernel⟩
set_option maxRecDepth 100000 in
theorem yk_X12_writeLog : Cond.code yX12_writeLog cX12_writeLog 6 none ∈ AW := (aw_t8 231 rfl rfl)
set_option maxRecDepth 100000 in
theorem yi_X12_writeLog : Cond.instanceMethod yX12_writeLog ∈ AW := (aw_t8 230 rfl rfl)
set_option maxRecDepth 100000 in
theorem yv_X12_writeLog : Cond.selects RX12 yX12_writeLog yX12_writeLog ∈ AW := (aw_tP 103 rfl rfl)
theorem yh_X12_writeLog : Ymh yX12_writeLog 1 := ⟨by decide, by decide, by decide +kernel⟩
set_option maxRecDepth 100000 in
theorem yk_X12_writeNumber : Cond.code yX12_writeNumber cX12_writeNumber 3 none ∈ AW := (aw_t8 213 rfl rfl)
set_option maxRecDepth 100000 in
theorem yi_X12_writeNumber : Cond.instanceMethod yX12_writeNumber ∈ AW := (aw_t8 212 rfl rfl)
set_option maxRecDepth 100000 in
theorem yv_X12_writeNumber : Cond.selects RX12 yX12_writeNumber yX12_writeNumber ∈ AW := (aw_tP 100 rfl rfl)
theorem yh_X12_writeNumber : Ymh yX12_writeNumber 1 := ⟨by decide, by decide, by decide +kernel⟩
set_option maxRecDepth 100000 in
theorem yk_X12_writeRequest : Cond.code yX12_writeRequest cX12_writeRequest 2 none ∈ AW := (aw_t8 220 rfl rfl)
set_option maxRecDepth 100000 in
theorem yi_X12_writeRequest : Cond.instanceMethod yX12_writeRequest ∈ AW := (aw_t8 219 rfl rfl)
set_option maxRecDepth 100000 in
theorem yv_X12_writeRequest : Cond.selects RX12 yX12_writeRequest yX12_writeRequest ∈ AW := (aw_tP 101 rfl rfl)
theorem yh_X12_writeRequest : Ymh yX12_writeRequest 1 := ⟨by decide, by decide, by decide +kernel⟩
set_option maxRecDepth 100000 in
theorem yk_X12_writeWord : Cond.code yX12_writeWord cX12_writeWord 3 none ∈ AW := (aw_t8 224 rfl rfl)
set_option maxRecDepth 100000 in
theorem yi_X12_writeWord : Cond.instanceMethod yX12_writeWord ∈ AW := (aw_t8 223 rfl rfl)
set_option maxRecDepth 100000 in
theorem yv_X12_writeWord : Cond.selects RX12 yX12_writeWord yX12_writeWord ∈ AW := (aw_tP 102 rfl rfl)
theorem yh_X12_writeWord : Ymh yX12_writeWord 1 := ⟨by decide, by decide, by decide +kernel⟩
set_option maxRecDepth 100000 in
theorem yk_X12_wrongs : Cond.code yX12_wrongs cX12_wrongs 3 none ∈ AW := (aw_t9 36 rfl rfl)
set_option maxRecDepth 100000 in
theorem yi_X12_wrongs : Cond.instanceMethod yX12_wrongs ∈ AW := (aw_t9 35 rfl rfl)
set_option maxRecDepth 100000 in
theorem yv_X12_wrongs : Cond.selects RX12 yX12_wrongs yX12_wrongs ∈ AW := (aw_tP 108 rfl rfl)
theorem yh_X12_wrongs : Ymh yX12_wrongs 2 := ⟨by decide, by decide, by decide +kernel⟩
set_option maxRecDepth 100000 in
theorem yk_X1_begin : Cond.code yX1_begin cX1_begin 2 none ∈ AW := (aw_t4 126 rfl rfl)
set_option maxRecDepth 100000 in
theorem yi_X1_begin : Cond.instanceMethod yX1_begin ∈ AW := (aw_t4 124 rfl rfl)
set_option maxRecDepth 100000 in
theorem yv_X1_begin : Cond.selects RX1 yX1_begin yX1_begin ∈ AW := (aw_t4 125 rfl rfl)
theorem yh_X1_begin : Ymh yX1_begin 1 := ⟨by decide, by decide, by decide +kernel⟩
set_option maxRecDepth 100000 in
theorem yk_X1_hearReply : Cond.code yX1_hearReply cX1_hearReply 6 (some .boolean) ∈ AW := (aw_t4 174 rfl rfl)
set_option maxRecDepth 100000 in
theorem yi_X1_hearReply : Cond.instanceMethod yX1_hearReply ∈ AW := (aw_t4 172 rfl rfl)
set_option maxRecDepth 100000 in
theorem yv_X1_hearReply : Cond.selects RX1 yX1_hearReply yX1_hearReply ∈ AW := (aw_t4 173 rfl rfl)
theorem yh_X1_hearReply : Ymh yX1_hearReply 3 := ⟨by decide, by decide, by decide +kernel⟩
set_option maxRecDepth 100000 in
theorem yk_X1_init : Cond.code yX1_init cX1_init 2 none ∈ AW := (aw_t2 89 rfl rfl)
set_option maxRecDepth 100000 in
theorem yi_X1_init : Cond.instanceMethod yX1_init ∈ AW := (aw_t2 88 rfl rfl)
theorem yh_X1_init : Ymh yX1_init 0 := ⟨by decide, by decide, by decide +kernel⟩
set_option maxRecDepth 100000 in
theorem yk_X1_placeOf : Cond.code yX1_placeOf cX1_placeOf 6 (some (.object "OrderedWorks$Place")) ∈ AW := (aw_t4 178 rfl rfl)
set_option maxRecDepth 100000 in
theorem yi_X1_placeOf : Cond.instanceMethod yX1_placeOf ∈ AW := (aw_t4 177 rfl rfl)
set_option maxRecDepth 100000 in
theorem yv_X1_placeOf : Cond.selects RX1 yX1_placeOf yX1_placeOf ∈ AW := (aw_tP 9 rfl rfl)
theorem yh_X1_placeOf : Ymh yX1_placeOf 2 := ⟨by decide, by decide, by decide +kernel⟩
set_option maxRecDepth 100000 in
theorem yk_X2_add : Cond.code yX2_add cX2_add 2 none ∈ AW := (aw_t5 15 rfl rfl)
set_option maxRecDepth 100000 in
theorem yi_X2_add : Cond.instanceMethod yX2_add ∈ AW := (aw_t5 13 rfl rfl)
set_option maxRecDepth 100000 in
theorem yv_X2_add : Cond.selects RX2 yX2_add yX2_add ∈ AW := (aw_t5 14 rfl rfl)
theorem yh_X2_add : Ymh yX2_add 1 := ⟨by decide, by decide, by decide +kernel⟩
set_option maxRecDepth 100000 in
theorem yk_X2_at : Cond.code yX2_at cX2_at 2 (some (.object "OrderedWorks$Request")) ∈ AW := (aw_t3 44 rfl rfl)
set_option maxRecDepth 100000 in
theorem yi_X2_at : Cond.instanceMethod yX2_at ∈ AW := (aw_t3 42 rfl rfl)
set_option maxRecDepth 100000 in
theorem yv_X2_at : Cond.selects RX2 yX2_at yX2_at ∈ AW := (aw_t3 43 rfl rfl)
theorem yh_X2_at : Ymh yX2_at 1 := ⟨by decide, by decide, by decide +kernel⟩
set_option maxRecDepth 100000 in
theorem yk_X2_become : Cond.code yX2_become cX2_become 2 none ∈ AW := (aw_t4 222 rfl rfl)
set_option maxRecDepth 100000 in
theorem yi_X2_become : Cond.instanceMethod yX2_become ∈ AW := (aw_t4 220 rfl rfl)
set_option maxRecDepth 100000 in
theorem yv_X2_become : Cond.selects RX2 yX2_become yX2_become ∈ AW := (aw_t4 221 rfl rfl)
theorem yh_X2_become : Ymh yX2_become 1 := ⟨by decide, by decide, by decide +kernel⟩
set_option maxRecDepth 100000 in
theorem yk_X2_copyFirst : Cond.code yX2_copyFirst cX2_copyFirst 3 none ∈ AW := (aw_t4 226 rfl rfl)
set_option maxRecDepth 100000 in
theorem yi_X2_copyFirst : Cond.instanceMethod yX2_copyFirst ∈ AW := (aw_t4 224 rfl rfl)
set_option maxRecDepth 100000 in
theorem yv_X2_copyFirst : Cond.selects RX2 yX2_copyFirst yX2_copyFirst ∈ AW := (aw_t4 225 rfl rfl)
theorem yh_X2_copyFirst : Ymh yX2_copyFirst 1 := ⟨by decide, by decide, by decide +kernel⟩
set_option maxRecDepth 100000 in
theorem yk_X2_has : Cond.code yX2_has cX2_has 2 (some .boolean) ∈ AW := (aw_t3 40 rfl rfl)
set_option maxRecDepth 100000 in
theorem yi_X2_has : Cond.instanceMethod yX2_has ∈ AW := (aw_t3 38 rfl rfl)
set_option maxRecDepth 100000 in
theorem yv_X2_has : Cond.selects RX2 yX2_has yX2_has ∈ AW := (aw_t3 39 rfl rfl)
theorem yh_X2_has : Ymh yX2_has 1 := ⟨by decide, by decide, by decide +kernel⟩
set_option maxRecDepth 100000 in
theorem yk_X2_init : Cond.code yX2_init cX2_init 1 none ∈ AW := (aw_t1 50 rfl rfl)
set_option maxRecDepth 100000 in
theorem yi_X2_init : Cond.instanceMethod yX2_init ∈ AW := (aw_t1 49 rfl rfl)
theorem yh_X2_init : Ymh yX2_init 0 := ⟨by decide, by decide, by decide +kernel⟩
set_option maxRecDepth 100000 in
theorem yk_X2_isFull : Cond.code yX2_isFull cX2_isFull 1 (some .boolean) ∈ AW := (aw_t5 7 rfl rfl)
set_option maxRecDepth 100000 in
theorem yi_X2_isFull : Cond.instanceMethod yX2_isFull ∈ AW := (aw_t5 5 rfl rfl)
set_option maxRecDepth 100000 in
theorem yv_X2_isFull : Cond.selects RX2 yX2_isFull yX2_isFull ∈ AW := (aw_t5 6 rfl rfl)
theorem yh_X2_isFull : Ymh yX2_isFull 0 := ⟨by decide, by decide, by decide +kernel⟩
set_option maxRecDepth 100000 in
theorem yk_X2_replace : Cond.code yX2_replace cX2_replace 3 none ∈ AW := (aw_t5 42 rfl rfl)
set_option maxRecDepth 100000 in
theorem yi_X2_replace : Cond.instanceMethod yX2_replace ∈ AW := (aw_t5 40 rfl rfl)
set_option maxRecDepth 100000 in
theorem yv_X2_replace : Cond.selects RX2 yX2_replace yX2_replace ∈ AW := (aw_t5 41 rfl rfl)
theorem yh_X2_replace : Ymh yX2_replace 2 := ⟨by decide, by decide, by decide +kernel⟩
set_option maxRecDepth 100000 in
theorem yk_X2_write : Cond.code yX2_write cX2_write 4 none ∈ AW := (aw_t3 127 rfl rfl)
set_option maxRecDepth 100000 in
theorem yi_X2_write : Cond.instanceMethod yX2_write ∈ AW := (aw_t3 125 rfl rfl)
set_option maxRecDepth 100000 in
theorem yv_X2_write : Cond.selects RX2 yX2_write yX2_write ∈ AW := (aw_t3 126 rfl rfl)
theorem yh_X2_write : Ymh yX2_write 1 := ⟨by decide, by decide, by decide +kernel⟩
set_option maxRecDepth 100000 in
theorem yk_X2_writeEntries : Cond.code yX2_writeEntries cX2_writeEntries 5 none ∈ AW := (aw_t5 222 rfl rfl)
set_option maxRecDepth 100000 in
theorem yi_X2_writeEntries : Cond.instanceMethod yX2_writeEntries ∈ AW := (aw_t5 220 rfl rfl)
set_option maxRecDepth 100000 in
theorem yv_X2_writeEntries : Cond.selects RX2 yX2_writeEntries yX2_writeEntries ∈ AW := (aw_t5 221 rfl rfl)
theorem yh_X2_writeEntries : Ymh yX2_writeEntries 2 := ⟨by decide, by decide, by decide +kernel⟩
set_option maxRecDepth 100000 in
theorem yk_X3_init : Cond.code yX3_init cX3_init 1 none ∈ AW := (aw_t1 44 rfl rfl)
set_option maxRecDepth 100000 in
theorem yi_X3_init : Cond.instanceMethod yX3_init ∈ AW := (aw_t1 43 rfl rfl)
theorem yh_X3_init : Ymh yX3_init 0 := ⟨by decide, by decide, by decide +kernel⟩
set_option maxRecDepth 100000 in
theorem yk_X3_write : Cond.code yX3_write cX3_write 2 none ∈ AW := (aw_t3 102 rfl rfl)
set_option maxRecDepth 100000 in
theorem yi_X3_write : Cond.instanceMethod yX3_write ∈ AW := (aw_t3 100 rfl rfl)
set_option maxRecDepth 100000 in
theorem yv_X3_write : Cond.selects RX3 yX3_write yX3_write ∈ AW := (aw_t3 101 rfl rfl)
theorem yh_X3_write : Ymh yX3_write 1 := ⟨by decide, by decide, by decide +kernel⟩
set_option maxRecDepth 100000 in
theorem yk_X3_writeRest : Cond.code yX3_writeRest cX3_writeRest 2 none ∈ AW := (aw_t3 123 rfl rfl)
set_option maxRecDepth 100000 in
theorem yi_X3_writeRest : Cond.instanceMethod yX3_writeRest ∈ AW := (aw_t3 122 rfl rfl)
set_option maxRecDepth 100000 in
theorem yv_X3_writeRest : Cond.selects RX3 yX3_writeRest yX3_writeRest ∈ AW := (aw_tP 3 rfl rfl)
theorem yh_X3_writeRest : Ymh yX3_writeRest 1 := ⟨by decide, by decide, by decide +kernel⟩
set_option maxRecDepth 100000 in
theorem yk_X4_at : Cond.code yX4_at cX4_at 2 (some (.object "OrderedWorks$Message")) ∈ AW := (aw_t3 94 rfl rfl)
set_option maxRecDepth 100000 in
theorem yi_X4_at : Cond.instanceMethod yX4_at ∈ AW := (aw_t3 92 rfl rfl)
set_option maxRecDepth 100000 in
theorem yv_X4_at : Cond.selects RX4 yX4_at yX4_at ∈ AW := (aw_t3 93 rfl rfl)
theorem yh_X4_at : Ymh yX4_at 1 := ⟨by decide, by decide, by decide +kernel⟩
set_option maxRecDepth 100000 in
theorem yk_X4_find : Cond.code yX4_find cX4_find 3 (some .int) ∈ AW := (aw_t4 155 rfl rfl)
set_option maxRecDepth 100000 in
theorem yi_X4_find : Cond.instanceMethod yX4_find ∈ AW := (aw_t4 153 rfl rfl)
set_option maxRecDepth 100000 in
theorem yv_X4_find : Cond.selects RX4 yX4_find yX4_find ∈ AW := (aw_t4 154 rfl rfl)
theorem yh_X4_find : Ymh yX4_find 1 := ⟨by decide, by decide, by decide +kernel⟩
set_option maxRecDepth 100000 in
theorem yk_X4_init : Cond.code yX4_init cX4_init 3 none ∈ AW := (aw_t1 37 rfl rfl)
set_option maxRecDepth 100000 in
theorem yi_X4_init : Cond.instanceMethod yX4_init ∈ AW := (aw_t1 36 rfl rfl)
theorem yh_X4_init : Ymh yX4_init 1 := ⟨by decide, by decide, by decide +kernel⟩
set_option maxRecDepth 100000 in
theorem yk_X4_leaderOf : Cond.code yX4_leaderOf cX4_leaderOf 3 (some .int) ∈ AW := (aw_t3 61 rfl rfl)
set_option maxRecDepth 100000 in
theorem yi_X4_leaderOf : Cond.instanceMethod yX4_leaderOf ∈ AW := (aw_t3 59 rfl rfl)
set_option maxRecDepth 100000 in
theorem yv_X4_leaderOf : Cond.selects RX4 yX4_leaderOf yX4_leaderOf ∈ AW := (aw_t3 60 rfl rfl)
theorem yh_X4_leaderOf : Ymh yX4_leaderOf 1 := ⟨by decide, by decide, by decide +kernel⟩
set_option maxRecDepth 100000 in
theorem yk_X4_pull : Cond.code yX4_pull cX4_pull 4 (some (.object "OrderedWorks$Message")) ∈ AW := (aw_t4 165 rfl rfl)
set_option maxRecDepth 100000 in
theorem yi_X4_pull : Cond.instanceMethod yX4_pull ∈ AW := (aw_t4 163 rfl rfl)
set_option maxRecDepth 100000 in
theorem yv_X4_pull : Cond.selects RX4 yX4_pull yX4_pull ∈ AW := (aw_t4 164 rfl rfl)
theorem yh_X4_pull : Ymh yX4_pull 1 := ⟨by decide, by decide, by decide +kernel⟩
set_option maxRecDepth 100000 in
theorem yk_X4_send : Cond.code yX4_send cX4_send 8 (some (.object "OrderedWorks$Message")) ∈ AW := (aw_t4 135 rfl rfl)
set_option maxRecDepth 100000 in
theorem yi_X4_send : Cond.instanceMethod yX4_send ∈ AW := (aw_t4 133 rfl rfl)
set_option maxRecDepth 100000 in
theorem yv_X4_send : Cond.selects RX4 yX4_send yX4_send ∈ AW := (aw_t4 134 rfl rfl)
theorem yh_X4_send : Ymh yX4_send 5 := ⟨by decide, by decide, by decide +kernel⟩
set_option maxRecDepth 100000 in
theorem yk_X5_clear : Cond.code yX5_clear cX5_clear 1 none ∈ AW := (aw_t4 213 rfl rfl)
set_option maxRecDepth 100000 in
theorem yi_X5_clear : Cond.instanceMethod yX5_clear ∈ AW := (aw_t4 211 rfl rfl)
set_option maxRecDepth 100000 in
theorem yv_X5_clear : Cond.selects RX5 yX5_clear yX5_clear ∈ AW := (aw_t4 212 rfl rfl)
theorem yh_X5_clear : Ymh yX5_clear 0 := ⟨by decide, by decide, by decide +kernel⟩
set_option maxRecDepth 100000 in
theorem yk_X5_countTurned : Cond.code yX5_countTurned cX5_countTurned 3 none ∈ AW := (aw_t5 68 rfl rfl)
set_option maxRecDepth 100000 in
theorem yi_X5_countTurned : Cond.instanceMethod yX5_countTurned ∈ AW := (aw_t5 66 rfl rfl)
set_option maxRecDepth 100000 in
theorem yv_X5_countTurned : Cond.selects RX5 yX5_countTurned yX5_countTurned ∈ AW := (aw_t5 67 rfl rfl)
theorem yh_X5_countTurned : Ymh yX5_countTurned 1 := ⟨by decide, by decide, by decide +kernel⟩
set_option maxRecDepth 100000 in
theorem yk_X5_find : Cond.code yX5_find cX5_find 3 (some .int) ∈ AW := (aw_t4 234 rfl rfl)
set_option maxRecDepth 100000 in
theorem yi_X5_find : Cond.instanceMethod yX5_find ∈ AW := (aw_t4 232 rfl rfl)
set_option maxRecDepth 100000 in
theorem yv_X5_find : Cond.selects RX5 yX5_find yX5_find ∈ AW := (aw_t4 233 rfl rfl)
theorem yh_X5_find : Ymh yX5_find 1 := ⟨by decide, by decide, by decide +kernel⟩
set_option maxRecDepth 100000 in
theorem yk_X5_hold : Cond.code yX5_hold cX5_hold 4 none ∈ AW := (aw_t4 238 rfl rfl)
set_option maxRecDepth 100000 in
theorem yi_X5_hold : Cond.instanceMethod yX5_hold ∈ AW := (aw_t4 236 rfl rfl)
set_option maxRecDepth 100000 in
theorem yv_X5_hold : Cond.selects RX5 yX5_hold yX5_hold ∈ AW := (aw_t4 237 rfl rfl)
theorem yh_X5_hold : Ymh yX5_hold 2 := ⟨by decide, by decide, by decide +kernel⟩
set_option maxRecDepth 100000 in
theorem yk_X5_init : Cond.code yX5_init cX5_init 3 none ∈ AW := (aw_t1 221 rfl rfl)
set_option maxRecDepth 100000 in
theorem yi_X5_init : Cond.instanceMethod yX5_init ∈ AW := (aw_t1 220 rfl rfl)
theorem yh_X5_init : Ymh yX5_init 1 := ⟨by decide, by decide, by decide +kernel⟩
set_option maxRecDepth 100000 in
theorem yk_X5_looksAt : Cond.code yX5_looksAt cX5_looksAt 4 (some .boolean) ∈ AW := (aw_t5 80 rfl rfl)
set_option maxRecDepth 100000 in
theorem yi_X5_looksAt : Cond.instanceMethod yX5_looksAt ∈ AW := (aw_t5 78 rfl rfl)
set_option maxRecDepth 100000 in
theorem yv_X5_looksAt : Cond.selects RX5 yX5_looksAt yX5_looksAt ∈ AW := (aw_t5 79 rfl rfl)
theorem yh_X5_looksAt : Ymh yX5_looksAt 2 := ⟨by decide, by decide, by decide +kernel⟩
set_option maxRecDepth 100000 in
theorem yk_X5_release : Cond.code yX5_release cX5_release 4 (some (.object "OrderedWorks$Request")) ∈ AW := (aw_t5 11 rfl rfl)
set_option maxRecDepth 100000 in
theorem yi_X5_release : Cond.instanceMethod yX5_release ∈ AW := (aw_t5 9 rfl rfl)
set_option maxRecDepth 100000 in
theorem yv_X5_release : Cond.selects RX5 yX5_release yX5_release ∈ AW := (aw_t5 10 rfl rfl)
theorem yh_X5_release : Ymh yX5_release 1 := ⟨by decide, by decide, by decide +kernel⟩
set_option maxRecDepth 100000 in
theorem yk_X6_become : Cond.code yX6_become cX6_become 2 none ∈ AW := (aw_t4 192 rfl rfl)
set_option maxRecDepth 100000 in
theorem yi_X6_become : Cond.instanceMethod yX6_become ∈ AW := (aw_t4 190 rfl rfl)
set_option maxRecDepth 100000 in
theorem yv_X6_become : Cond.selects RX6 yX6_become yX6_become ∈ AW := (aw_t4 191 rfl rfl)
theorem yh_X6_become : Ymh yX6_become 1 := ⟨by decide, by decide, by decide +kernel⟩
set_option maxRecDepth 100000 in
theorem yk_X6_begin : Cond.code yX6_begin cX6_begin 5 none ∈ AW := (aw_t4 182 rfl rfl)
set_option maxRecDepth 100000 in
theorem yi_X6_begin : Cond.instanceMethod yX6_begin ∈ AW := (aw_t4 180 rfl rfl)
set_option maxRecDepth 100000 in
theorem yv_X6_begin : Cond.selects RX6 yX6_begin yX6_begin ∈ AW := (aw_t4 181 rfl rfl)
theorem yh_X6_begin : Ymh yX6_begin 3 := ⟨by decide, by decide, by decide +kernel⟩
set_option maxRecDepth 100000 in
theorem yk_X6_init : Cond.code yX6_init cX6_init 1 none ∈ AW := (aw_t2 95 rfl rfl)
set_option maxRecDepth 100000 in
theorem yi_X6_init : Cond.instanceMethod yX6_init ∈ AW := (aw_t2 94 rfl rfl)
theorem yh_X6_init : Ymh yX6_init 0 := ⟨by decide, by decide, by decide +kernel⟩
set_option maxRecDepth 100000 in
theorem yk_X7_at : Cond.code yX7_at cX7_at 2 (some .int) ∈ AW := (aw_t3 185 rfl rfl)
set_option maxRecDepth 100000 in
theorem yi_X7_at : Cond.instanceMethod yX7_at ∈ AW := (aw_t3 183 rfl rfl)
set_option maxRecDepth 100000 in
theorem yv_X7_at : Cond.selects RX7 yX7_at yX7_at ∈ AW := (aw_t3 184 rfl rfl)
theorem yh_X7_at : Ymh yX7_at 1 := ⟨by decide, by decide, by decide +kernel⟩
set_option maxRecDepth 100000 in
theorem yk_X7_init : Cond.code yX7_init cX7_init 2 none ∈ AW := (aw_t2 180 rfl rfl)
set_option maxRecDepth 100000 in
theorem yi_X7_init : Cond.instanceMethod yX7_init ∈ AW := (aw_t2 179 rfl rfl)
theorem yh_X7_init : Ymh yX7_init 1 := ⟨by decide, by decide, by decide +kernel⟩
set_option maxRecDepth 100000 in
theorem yk_X7_nextByte : Cond.code yX7_nextByte cX7_nextByte 2 (some .int) ∈ AW := (aw_t6 3 rfl rfl)
set_option maxRecDepth 100000 in
theorem yi_X7_nextByte : Cond.instanceMethod yX7_nextByte ∈ AW := (aw_t6 2 rfl rfl)
set_option maxRecDepth 100000 in
theorem yv_X7_nextByte : Cond.selects RX7 yX7_nextByte yX7_nextByte ∈ AW := (aw_tP 33 rfl rfl)
theorem yh_X7_nextByte : Ymh yX7_nextByte 0 := ⟨by decide, by decide, by decide +kernel⟩
set_option maxRecDepth 100000 in
theorem yk_X7_nextWord : Cond.code yX7_nextWord cX7_nextWord 3 (some .int) ∈ AW := (aw_t6 41 rfl rfl)
set_option maxRecDepth 100000 in
theorem yi_X7_nextWord : Cond.instanceMethod yX7_nextWord ∈ AW := (aw_t6 40 rfl rfl)
set_option maxRecDepth 100000 in
theorem yv_X7_nextWord : Cond.selects RX7 yX7_nextWord yX7_nextWord ∈ AW := (aw_tP 42 rfl rfl)
theorem yh_X7_nextWord : Ymh yX7_nextWord 0 := ⟨by decide, by decide, by decide +kernel⟩
set_option maxRecDepth 100000 in
theorem yk_X7_read : Cond.code yX7_read cX7_read 2 none ∈ AW := (aw_t5 235 rfl rfl)
set_option maxRecDepth 100000 in
theorem yi_X7_read : Cond.instanceMethod yX7_read ∈ AW := (aw_t5 233 rfl rfl)
set_option maxRecDepth 100000 in
theorem yv_X7_read : Cond.selects RX7 yX7_read yX7_read ∈ AW := (aw_t5 234 rfl rfl)
theorem yh_X7_read : Ymh yX7_read 0 := ⟨by decide, by decide, by decide +kernel⟩
set_option maxRecDepth 100000 in
theorem yk_X7_readByte : Cond.code yX7_readByte cX7_readByte 3 (some .int) ∈ AW := (aw_t5 239 rfl rfl)
set_option maxRecDepth 100000 in
theorem yi_X7_readByte : Cond.instanceMethod yX7_readByte ∈ AW := (aw_t5 238 rfl rfl)
set_option maxRecDepth 100000 in
theorem yv_X7_readByte : Cond.selects RX7 yX7_readByte yX7_readByte ∈ AW := (aw_tP 32 rfl rfl)
theorem yh_X7_readByte : Ymh yX7_readByte 1 := ⟨by decide, by decide, by decide +kernel⟩
set_option maxRecDepth 100000 in
theorem yk_X7_readLog : Cond.code yX7_readLog cX7_readLog 4 none ∈ AW := (aw_t6 33 rfl rfl)
set_option maxRecDepth 100000 in
theorem yi_X7_readLog : Cond.instanceMethod yX7_readLog ∈ AW := (aw_t6 32 rfl rfl)
set_option maxRecDepth 100000 in
theorem yv_X7_readLog : Cond.selects RX7 yX7_readLog yX7_readLog ∈ AW := (aw_tP 40 rfl rfl)
theorem yh_X7_readLog : Ymh yX7_readLog 0 := ⟨by decide, by decide, by decide +kernel⟩
set_option maxRecDepth 100000 in
theorem yk_X7_readNumber : Cond.code yX7_readNumber cX7_readNumber 6 (some .int) ∈ AW := (aw_t6 28 rfl rfl)
set_option maxRecDepth 100000 in
theorem yi_X7_readNumber : Cond.instanceMethod yX7_readNumber ∈ AW := (aw_t6 27 rfl rfl)
set_option maxRecDepth 100000 in
theorem yv_X7_readNumber : Cond.selects RX7 yX7_readNumber yX7_readNumber ∈ AW := (aw_tP 39 rfl rfl)
theorem yh_X7_readNumber : Ymh yX7_readNumber 0 := ⟨by decide, by decide, by decide +kernel⟩
set_option maxRecDepth 100000 in
theorem yk_X7_readReceiver : Cond.code yX7_readReceiver cX7_readReceiver 3 none ∈ AW := (aw_t6 20 rfl rfl)
set_option maxRecDepth 100000 in
theorem yi_X7_readReceiver : Cond.instanceMethod yX7_readReceiver ∈ AW := (aw_t6 19 rfl rfl)
set_option maxRecDepth 100000 in
theorem yv_X7_readReceiver : Cond.selects RX7 yX7_readReceiver yX7_readReceiver ∈ AW := (aw_tP 37 rfl rfl)
theorem yh_X7_readReceiver : Ymh yX7_readReceiver 0 := ⟨by decide, by decide, by decide +kernel⟩
set_option maxRecDepth 100000 in
theorem yk_X7_readRequest : Cond.code yX7_readRequest cX7_readRequest 1 none ∈ AW := (aw_t6 37 rfl rfl)
set_option maxRecDepth 100000 in
theorem yi_X7_readRequest : Cond.instanceMethod yX7_readRequest ∈ AW := (aw_t6 36 rfl rfl)
set_option maxRecDepth 100000 in
theorem yv_X7_readRequest : Cond.selects RX7 yX7_readRequest yX7_readRequest ∈ AW := (aw_tP 41 rfl rfl)
theorem yh_X7_readRequest : Ymh yX7_readRequest 0 := ⟨by decide, by decide, by decide +kernel⟩
set_option maxRecDepth 100000 in
theorem yk_X7_readRest : Cond.code yX7_readRest cX7_readRest 2 none ∈ AW := (aw_t6 24 rfl rfl)
set_option maxRecDepth 100000 in
theorem yi_X7_readRest : Cond.instanceMethod yX7_readRest ∈ AW := (aw_t6 23 rfl rfl)
set_option maxRecDepth 100000 in
theorem yv_X7_readRest : Cond.selects RX7 yX7_readRest yX7_readRest ∈ AW := (aw_tP 38 rfl rfl)
theorem yh_X7_readRest : Ymh yX7_readRest 1 := ⟨by decide, by decide, by decide +kernel⟩
set_option maxRecDepth 100000 in
theorem yk_X7_readSender : Cond.code yX7_readSender cX7_readSender 2 none ∈ AW := (aw_t6 16 rfl rfl)
set_option maxRecDepth 100000 in
theorem yi_X7_readSender : Cond.instanceMethod yX7_readSender ∈ AW := (aw_t6 15 rfl rfl)
set_option maxRecDepth 100000 in
theorem yv_X7_readSender : Cond.selects RX7 yX7_readSender yX7_readSender ∈ AW := (aw_tP 36 rfl rfl)
theorem yh_X7_readSender : Ymh yX7_readSender 0 := ⟨by decide, by decide, by decide +kernel⟩
set_option maxRecDepth 100000 in
theorem yk_X7_readSum : Cond.code yX7_readSum cX7_readSum 4 none ∈ AW := (aw_t6 45 rfl rfl)
set_option maxRecDepth 100000 in
theorem yi_X7_readSum : Cond.instanceMethod yX7_readSum ∈ AW := (aw_t6 44 rfl rfl)
set_option maxRecDepth 100000 in
theorem yv_X7_readSum : Cond.selects RX7 yX7_readSum yX7_readSum ∈ AW := (aw_tP 43 rfl rfl)
theorem yh_X7_readSum : Ymh yX7_readSum 0 := ⟨by decide, by decide, by decide +kernel⟩
set_option maxRecDepth 100000 in
theorem yk_X7_spoil : Cond.code yX7_spoil cX7_spoil 3 none ∈ AW := (aw_t6 8 rfl rfl)
set_option maxRecDepth 100000 in
theorem yi_X7_spoil : Cond.instanceMethod yX7_spoil ∈ AW := (aw_t6 7 rfl rfl)
set_option maxRecDepth 100000 in
theorem yv_X7_spoil : Cond.selects RX7 yX7_spoil yX7_spoil ∈ AW := (aw_tP 34 rfl rfl)
theorem yh_X7_spoil : Ymh yX7_spoil 2 := ⟨by decide, by decide, by decide +kernel⟩
set_option maxRecDepth 100000 in
theorem yk_X7_tell : Cond.code yX7_tell cX7_tell 2 none ∈ AW := (aw_t6 12 rfl rfl)
set_option maxRecDepth 100000 in
theorem yi_X7_tell : Cond.instanceMethod yX7_tell ∈ AW := (aw_t6 11 rfl rfl)
set_option maxRecDepth 100000 in
theorem yv_X7_tell : Cond.selects RX7 yX7_tell yX7_tell ∈ AW := (aw_tP 35 rfl rfl)
theorem yh_X7_tell : Ymh yX7_tell 1 := ⟨by decide, by decide, by decide +kernel⟩
set_option maxRecDepth 100000 in
theorem yk_X8_askAgain : Cond.code yX8_askAgain cX8_askAgain 1 none ∈ AW := (aw_t5 156 rfl rfl)
set_option maxRecDepth 100000 in
theorem yi_X8_askAgain : Cond.instanceMethod yX8_askAgain ∈ AW := (aw_t5 154 rfl rfl)
set_option maxRecDepth 100000 in
theorem yv_X8_askAgain : Cond.selects RX8 yX8_askAgain yX8_askAgain ∈ AW := (aw_t5 155 rfl rfl)
theorem yh_X8_askAgain : Ymh yX8_askAgain 0 := ⟨by decide, by decide, by decide +kernel⟩
set_option maxRecDepth 100000 in
theorem yk_X8_becomeNormal : Cond.code yX8_becomeNormal cX8_becomeNormal 1 none ∈ AW := (aw_t5 88 rfl rfl)
set_option maxRecDepth 100000 in
theorem yi_X8_becomeNormal : Cond.instanceMethod yX8_becomeNormal ∈ AW := (aw_t5 87 rfl rfl)
set_option maxRecDepth 100000 in
theorem yv_X8_becomeNormal : Cond.selects RX8 yX8_becomeNormal yX8_becomeNormal ∈ AW := (aw_tP 27 rfl rfl)
theorem yh_X8_becomeNormal : Ymh yX8_becomeNormal 0 := ⟨by decide, by decide, by decide +kernel⟩
set_option maxRecDepth 100000 in
theorem yk_X8_executedEnd : Cond.code yX8_executedEnd cX8_executedEnd 1 (some .int) ∈ AW := (aw_t3 53 rfl rfl)
set_option maxRecDepth 100000 in
theorem yi_X8_executedEnd : Cond.instanceMethod yX8_executedEnd ∈ AW := (aw_t3 51 rfl rfl)
set_option maxRecDepth 100000 in
theorem yv_X8_executedEnd : Cond.selects RX8 yX8_executedEnd yX8_executedEnd ∈ AW := (aw_t3 52 rfl rfl)
theorem yh_X8_executedEnd : Ymh yX8_executedEnd 0 := ⟨by decide, by decide, by decide +kernel⟩
set_option maxRecDepth 100000 in
theorem yk_X8_follow : Cond.code yX8_follow cX8_follow 4 none ∈ AW := (aw_t4 201 rfl rfl)
set_option maxRecDepth 100000 in
theorem yi_X8_follow : Cond.instanceMethod yX8_follow ∈ AW := (aw_t4 200 rfl rfl)
set_option maxRecDepth 100000 in
theorem yv_X8_follow : Cond.selects RX8 yX8_follow yX8_follow ∈ AW := (aw_tP 10 rfl rfl)
theorem yh_X8_follow : Ymh yX8_follow 1 := ⟨by decide, by decide, by decide +kernel⟩
set_option maxRecDepth 100000 in
theorem yk_X8_hear : Cond.code yX8_hear cX8_hear 3 none ∈ AW := (aw_t4 197 rfl rfl)
set_option maxRecDepth 100000 in
theorem yi_X8_hear : Cond.instanceMethod yX8_hear ∈ AW := (aw_t4 195 rfl rfl)
set_option maxRecDepth 100000 in
theorem yv_X8_hear : Cond.selects RX8 yX8_hear yX8_hear ∈ AW := (aw_t4 196 rfl rfl)
theorem yh_X8_hear : Ymh yX8_hear 1 := ⟨by decide, by decide, by decide +kernel⟩
set_option maxRecDepth 100000 in
theorem yk_X8_hearFound : Cond.code yX8_hearFound cX8_hearFound 2 none ∈ AW := (aw_t5 34 rfl rfl)
set_option maxRecDepth 100000 in
theorem yi_X8_hearFound : Cond.instanceMethod yX8_hearFound ∈ AW := (aw_t5 33 rfl rfl)
set_option maxRecDepth 100000 in
theorem yv_X8_hearFound : Cond.selects RX8 yX8_hearFound yX8_hearFound ∈ AW := (aw_tP 18 rfl rfl)
theorem yh_X8_hearFound : Ymh yX8_hearFound 1 := ⟨by decide, by decide, by decide +kernel⟩
set_option maxRecDepth 100000 in
theorem yk_X8_hearGapCommit : Cond.code yX8_hearGapCommit cX8_hearGapCommit 3 none ∈ AW := (aw_t5 38 rfl rfl)
set_option maxRecDepth 100000 in
theorem yi_X8_hearGapCommit : Cond.instanceMethod yX8_hearGapCommit ∈ AW := (aw_t5 37 rfl rfl)
set_option maxRecDepth 100000 in
theorem yv_X8_hearGapCommit : Cond.selects RX8 yX8_hearGapCommit yX8_hearGapCommit ∈ AW := (aw_tP 19 rfl rfl)
theorem yh_X8_hearGapCommit : Ymh yX8_hearGapCommit 1 := ⟨by decide, by decide, by decide +kernel⟩
set_option maxRecDepth 100000 in
theorem yk_X8_hearGapReply : Cond.code yX8_hearGapReply cX8_hearGapReply 2 none ∈ AW := (aw_t5 46 rfl rfl)
set_option maxRecDepth 100000 in
theorem yi_X8_hearGapReply : Cond.instanceMethod yX8_hearGapReply ∈ AW := (aw_t5 45 rfl rfl)
set_option maxRecDepth 100000 in
theorem yv_X8_hearGapReply : Cond.selects RX8 yX8_hearGapReply yX8_hearGapReply ∈ AW := (aw_tP 20 rfl rfl)
theorem yh_X8_hearGapReply : Ymh yX8_hearGapReply 1 := ⟨by decide, by decide, by decide +kernel⟩
set_option maxRecDepth 100000 in
theorem yk_X8_hearLookup : Cond.code yX8_hearLookup cX8_hearLookup 4 none ∈ AW := (aw_t5 28 rfl rfl)
set_option maxRecDepth 100000 in
theorem yi_X8_hearLookup : Cond.instanceMethod yX8_hearLookup ∈ AW := (aw_t5 27 rfl rfl)
set_option maxRecDepth 100000 in
theorem yv_X8_hearLookup : Cond.selects RX8 yX8_hearLookup yX8_hearLookup ∈ AW := (aw_tP 17 rfl rfl)
theorem yh_X8_hearLookup : Ymh yX8_hearLookup 1 := ⟨by decide, by decide, by decide +kernel⟩
set_option maxRecDepth 100000 in
theorem yk_X8_hearPoint : Cond.code yX8_hearPoint cX8_hearPoint 2 none ∈ AW := (aw_t5 60 rfl rfl)
set_option maxRecDepth 100000 in
theorem yi_X8_hearPoint : Cond.instanceMethod yX8_hearPoint ∈ AW := (aw_t5 59 rfl rfl)
set_option maxRecDepth 100000 in
theorem yv_X8_hearPoint : Cond.selects RX8 yX8_hearPoint yX8_hearPoint ∈ AW := (aw_tP 23 rfl rfl)
theorem yh_X8_hearPoint : Ymh yX8_hearPoint 1 := ⟨by decide, by decide, by decide +kernel⟩
set_option maxRecDepth 100000 in
theorem yk_X8_hearStamped : Cond.code yX8_hearStamped cX8_hearStamped 4 none ∈ AW := (aw_t4 230 rfl rfl)
set_option maxRecDepth 100000 in
theorem yi_X8_hearStamped : Cond.instanceMethod yX8_hearStamped ∈ AW := (aw_t4 229 rfl rfl)
set_option maxRecDepth 100000 in
theorem yv_X8_hearStamped : Cond.selects RX8 yX8_hearStamped yX8_hearStamped ∈ AW := (aw_tP 13 rfl rfl)
theorem yh_X8_hearStamped : Ymh yX8_hearStamped 1 := ⟨by decide, by decide, by decide +kernel⟩
set_option maxRecDepth 100000 in
theorem yk_X8_hearStart : Cond.code yX8_hearStart cX8_hearStart 2 none ∈ AW := (aw_t5 96 rfl rfl)
set_option maxRecDepth 100000 in
theorem yi_X8_hearStart : Cond.instanceMethod yX8_hearStart ∈ AW := (aw_t5 95 rfl rfl)
set_option maxRecDepth 100000 in
theorem yv_X8_hearStart : Cond.selects RX8 yX8_hearStart yX8_hearStart ∈ AW := (aw_tP 29 rfl rfl)
theorem yh_X8_hearStart : Ymh yX8_hearStart 1 := ⟨by decide, by decide, by decide +kernel⟩
set_option maxRecDepth 100000 in
theorem yk_X8_hearSync : Cond.code yX8_hearSync cX8_hearSync 2 none ∈ AW := (aw_t5 51 rfl rfl)
set_option maxRecDepth 100000 in
theorem yi_X8_hearSync : Cond.instanceMethod yX8_hearSync ∈ AW := (aw_t5 50 rfl rfl)
set_option maxRecDepth 100000 in
theorem yv_X8_hearSync : Cond.selects RX8 yX8_hearSync yX8_hearSync ∈ AW := (aw_tP 21 rfl rfl)
theorem yh_X8_hearSync : Ymh yX8_hearSync 1 := ⟨by decide, by decide, by decide +kernel⟩
set_option maxRecDepth 100000 in
theorem yk_X8_hearSyncReply : Cond.code yX8_hearSyncReply cX8_hearSyncReply 3 none ∈ AW := (aw_t5 56 rfl rfl)
set_option maxRecDepth 100000 in
theorem yi_X8_hearSyncReply : Cond.instanceMethod yX8_hearSyncReply ∈ AW := (aw_t5 55 rfl rfl)
set_option maxRecDepth 100000 in
theorem yv_X8_hearSyncReply : Cond.selects RX8 yX8_hearSyncReply yX8_hearSyncReply ∈ AW := (aw_tP 22 rfl rfl)
theorem yh_X8_hearSyncReply : Ymh yX8_hearSyncReply 1 := ⟨by decide, by decide, by decide +kernel⟩
set_option maxRecDepth 100000 in
theorem yk_X8_hearTurned : Cond.code yX8_hearTurned cX8_hearTurned 2 none ∈ AW := (aw_t5 64 rfl rfl)
set_option maxRecDepth 100000 in
theorem yi_X8_hearTurned : Cond.instanceMethod yX8_hearTurned ∈ AW := (aw_t5 63 rfl rfl)
set_option maxRecDepth 100000 in
theorem yv_X8_hearTurned : Cond.selects RX8 yX8_hearTurned yX8_hearTurned ∈ AW := (aw_tP 24 rfl rfl)
theorem yh_X8_hearTurned : Ymh yX8_hearTurned 1 := ⟨by decide, by decide, by decide +kernel⟩
set_option maxRecDepth 100000 in
theorem yk_X8_init : Cond.code yX8_init cX8_init 4 none ∈ AW := (aw_t1 209 rfl rfl)
set_option maxRecDepth 100000 in
theorem yi_X8_init : Cond.instanceMethod yX8_init ∈ AW := (aw_t1 208 rfl rfl)
theorem yh_X8_init : Ymh yX8_init 3 := ⟨by decide, by decide, by decide +kernel⟩
set_option maxRecDepth 100000 in
theorem yk_X8_leads : Cond.code yX8_leads cX8_leads 1 (some .boolean) ∈ AW := (aw_t3 57 rfl rfl)
set_option maxRecDepth 100000 in
theorem yi_X8_leads : Cond.instanceMethod yX8_leads ∈ AW := (aw_t3 55 rfl rfl)
set_option maxRecDepth 100000 in
theorem yv_X8_leads : Cond.selects RX8 yX8_leads yX8_leads ∈ AW := (aw_t3 56 rfl rfl)
theorem yh_X8_leads : Ymh yX8_leads 0 := ⟨by decide, by decide, by decide +kernel⟩
set_option maxRecDepth 100000 in
theorem yk_X8_merge : Cond.code yX8_merge cX8_merge 7 none ∈ AW := (aw_t5 73 rfl rfl)
set_option maxRecDepth 100000 in
theorem yi_X8_merge : Cond.instanceMethod yX8_merge ∈ AW := (aw_t5 72 rfl rfl)
set_option maxRecDepth 100000 in
theorem yv_X8_merge : Cond.selects RX8 yX8_merge yX8_merge ∈ AW := (aw_tP 25 rfl rfl)
theorem yh_X8_merge : Ymh yX8_merge 0 := ⟨by decide, by decide, by decide +kernel⟩
set_option maxRecDepth 100000 in
theorem yk_X8_mergedEntry : Cond.code yX8_mergedEntry cX8_mergedEntry 8 (some (.object "OrderedWorks$Request")) ∈ AW := (aw_t5 84 rfl rfl)
set_option maxRecDepth 100000 in
theorem yi_X8_mergedEntry : Cond.instanceMethod yX8_mergedEntry ∈ AW := (aw_t5 83 rfl rfl)
set_option maxRecDepth 100000 in
theorem yv_X8_mergedEntry : Cond.selects RX8 yX8_mergedEntry yX8_mergedEntry ∈ AW := (aw_tP 26 rfl rfl)
theorem yh_X8_mergedEntry : Ymh yX8_mergedEntry 2 := ⟨by decide, by decide, by decide +kernel⟩
set_option maxRecDepth 100000 in
theorem yk_X8_passTick : Cond.code yX8_passTick cX8_passTick 6 none ∈ AW := (aw_t5 183 rfl rfl)
set_option maxRecDepth 100000 in
theorem yi_X8_passTick : Cond.instanceMethod yX8_passTick ∈ AW := (aw_t5 181 rfl rfl)
set_option maxRecDepth 100000 in
theorem yv_X8_passTick : Cond.selects RX8 yX8_passTick yX8_passTick ∈ AW := (aw_t5 182 rfl rfl)
theorem yh_X8_passTick : Ymh yX8_passTick 1 := ⟨by decide, by decide, by decide +kernel⟩
set_option maxRecDepth 100000 in
theorem yk_X8_sendLogToOthers : Cond.code yX8_sendLogToOthers cX8_sendLogToOthers 3 none ∈ AW := (aw_t5 92 rfl rfl)
set_option maxRecDepth 100000 in
theorem yi_X8_sendLogToOthers : Cond.instanceMethod yX8_sendLogToOthers ∈ AW := (aw_t5 91 rfl rfl)
set_option maxRecDepth 100000 in
theorem yv_X8_sendLogToOthers : Cond.selects RX8 yX8_sendLogToOthers yX8_sendLogToOthers ∈ AW := (aw_tP 28 rfl rfl)
theorem yh_X8_sendLogToOthers : Ymh yX8_sendLogToOthers 1 := ⟨by decide, by decide, by decide +kernel⟩
set_option maxRecDepth 100000 in
theorem yk_X8_sendOthers : Cond.code yX8_sendOthers cX8_sendOthers 4 none ∈ AW := (aw_t5 24 rfl rfl)
set_option maxRecDepth 100000 in
theorem yi_X8_sendOthers : Cond.instanceMethod yX8_sendOthers ∈ AW := (aw_t5 23 rfl rfl)
set_option maxRecDepth 100000 in
theorem yv_X8_sendOthers : Cond.selects RX8 yX8_sendOthers yX8_sendOthers ∈ AW := (aw_tP 16 rfl rfl)
theorem yh_X8_sendOthers : Ymh yX8_sendOthers 2 := ⟨by decide, by decide, by decide +kernel⟩
set_option maxRecDepth 100000 in
theorem yk_X8_sendReply : Cond.code yX8_sendReply cX8_sendReply 4 none ∈ AW := (aw_t5 19 rfl rfl)
set_option maxRecDepth 100000 in
theorem yi_X8_sendReply : Cond.instanceMethod yX8_sendReply ∈ AW := (aw_t5 18 rfl rfl)
set_option maxRecDepth 100000 in
theorem yv_X8_sendReply : Cond.selects RX8 yX8_sendReply yX8_sendReply ∈ AW := (aw_tP 15 rfl rfl)
theorem yh_X8_sendReply : Ymh yX8_sendReply 2 := ⟨by decide, by decide, by decide +kernel⟩
set_option maxRecDepth 100000 in
theorem yk_X8_sendSync : Cond.code yX8_sendSync cX8_sendSync 1 none ∈ AW := (aw_t5 168 rfl rfl)
set_option maxRecDepth 100000 in
theorem yi_X8_sendSync : Cond.instanceMethod yX8_sendSync ∈ AW := (aw_t5 166 rfl rfl)
set_option maxRecDepth 100000 in
theorem yv_X8_sendSync : Cond.selects RX8 yX8_sendSync yX8_sendSync ∈ AW := (aw_t5 167 rfl rfl)
theorem yh_X8_sendSync : Ymh yX8_sendSync 0 := ⟨by decide, by decide, by decide +kernel⟩
set_option maxRecDepth 100000 in
theorem yk_X8_takeHeld : Cond.code yX8_takeHeld cX8_takeHeld 4 none ∈ AW := (aw_t5 3 rfl rfl)
set_option maxRecDepth 100000 in
theorem yi_X8_takeHeld : Cond.instanceMethod yX8_takeHeld ∈ AW := (aw_t5 2 rfl rfl)
set_option maxRecDepth 100000 in
theorem yv_X8_takeHeld : Cond.selects RX8 yX8_takeHeld yX8_takeHeld ∈ AW := (aw_tP 14 rfl rfl)
theorem yh_X8_takeHeld : Ymh yX8_takeHeld 0 := ⟨by decide, by decide, by decide +kernel⟩
set_option maxRecDepth 100000 in
theorem yk_X8_tellTurn : Cond.code yX8_tellTurn cX8_tellTurn 3 none ∈ AW := (aw_t4 217 rfl rfl)
set_option maxRecDepth 100000 in
theorem yi_X8_tellTurn : Cond.instanceMethod yX8_tellTurn ∈ AW := (aw_t4 216 rfl rfl)
set_option maxRecDepth 100000 in
theorem yv_X8_tellTurn : Cond.selects RX8 yX8_tellTurn yX8_tellTurn ∈ AW := (aw_tP 12 rfl rfl)
theorem yh_X8_tellTurn : Ymh yX8_tellTurn 0 := ⟨by decide, by decide, by decide +kernel⟩
set_option maxRecDepth 100000 in
theorem yk_X8_turn : Cond.code yX8_turn cX8_turn 3 none ∈ AW := (aw_t4 209 rfl rfl)
set_option maxRecDepth 100000 in
theorem yi_X8_turn : Cond.instanceMethod yX8_turn ∈ AW := (aw_t4 208 rfl rfl)
set_option maxRecDepth 100000 in
theorem yv_X8_turn : Cond.selects RX8 yX8_turn yX8_turn ∈ AW := (aw_tP 11 rfl rfl)
theorem yh_X8_turn : Ymh yX8_turn 1 := ⟨by decide, by decide, by decide +kernel⟩
set_option maxRecDepth 100000 in
theorem yk_X8_turnToNextLead : Cond.code yX8_turnToNextLead cX8_turnToNextLead 1 none ∈ AW := (aw_t5 145 rfl rfl)
set_option maxRecDepth 100000 in
theorem yi_X8_turnToNextLead : Cond.instanceMethod yX8_turnToNextLead ∈ AW := (aw_t5 143 rfl rfl)
set_option maxRecDepth 100000 in
theorem yv_X8_turnToNextLead : Cond.selects RX8 yX8_turnToNextLead yX8_turnToNextLead ∈ AW := (aw_t5 144 rfl rfl)
theorem yh_X8_turnToNextLead : Ymh yX8_turnToNextLead 0 := ⟨by decide, by decide, by decide +kernel⟩
set_option maxRecDepth 100000 in
theorem yk_X8_writeHead : Cond.code yX8_writeHead cX8_writeHead 2 none ∈ AW := (aw_t5 205 rfl rfl)
set_option maxRecDepth 100000 in
theorem yi_X8_writeHead : Cond.instanceMethod yX8_writeHead ∈ AW := (aw_t5 203 rfl rfl)
set_option maxRecDepth 100000 in
theorem yv_X8_writeHead : Cond.selects RX8 yX8_writeHead yX8_writeHead ∈ AW := (aw_t5 204 rfl rfl)
theorem yh_X8_writeHead : Ymh yX8_writeHead 1 := ⟨by decide, by decide, by decide +kernel⟩
set_option maxRecDepth 100000 in
theorem yk_X9_init : Cond.code yX9_init cX9_init 6 none ∈ AW := (aw_t4 87 rfl rfl)
set_option maxRecDepth 100000 in
theorem yi_X9_init : Cond.instanceMethod yX9_init ∈ AW := (aw_t4 86 rfl rfl)
theorem yh_X9_init : Ymh yX9_init 5 := ⟨by decide, by decide, by decide +kernel⟩
set_option maxRecDepth 100000 in
theorem yk_X9_write : Cond.code yX9_write cX9_write 2 none ∈ AW := (aw_t3 134 rfl rfl)
set_option maxRecDepth 100000 in
theorem yi_X9_write : Cond.instanceMethod yX9_write ∈ AW := (aw_t3 132 rfl rfl)
set_option maxRecDepth 100000 in
theorem yv_X9_write : Cond.selects RX9 yX9_write yX9_write ∈ AW := (aw_t3 133 rfl rfl)
theorem yh_X9_write : Ymh yX9_write 1 := ⟨by decide, by decide, by decide +kernel⟩
set_option maxRecDepth 100000 in
theorem in_RX0 : Cond.initialized RX0 ∈ AW := (aw_t1 11 rfl rfl)
set_option maxRecDepth 100000 in
theorem in_RX1 : Cond.initialized RX1 ∈ AW := (aw_t1 9 rfl rfl)
set_option maxRecDepth 100000 in
theorem in_RX2 : Cond.initialized RX2 ∈ AW := (aw_t1 5 rfl rfl)
set_option maxRecDepth 100000 in
theorem in_RX3 : Cond.initialized RX3 ∈ AW := (aw_t1 4 rfl rfl)
set_option maxRecDepth 100000 in
theorem in_RX4 : Cond.initialized RX4 ∈ AW := (aw_t1 3 rfl rfl)
set_option maxRecDepth 100000 in
theorem in_RX5 : Cond.initialized RX5 ∈ AW := (aw_t1 8 rfl rfl)
set_option maxRecDepth 100000 in
theorem in_RX6 : Cond.initialized RX6 ∈ AW := (aw_t1 10 rfl rfl)
set_option maxRecDepth 100000 in
theorem in_RX7 : Cond.initialized RX7 ∈ AW := (aw_t1 12 rfl rfl)
set_option maxRecDepth 100000 in
theorem in_RX8 : Cond.initialized RX8 ∈ AW := (aw_t1 7 rfl rfl)
set_option maxRecDepth 100000 in
theorem in_RX9 : Cond.initialized RX9 ∈ AW := (aw_t1 20 rfl rfl)
set_option maxRecDepth 100000 in
theorem in_RX10 : Cond.initialized RX10 ∈ AW := (aw_t1 6 rfl rfl)
set_option maxRecDepth 100000 in
theorem in_RX11 : Cond.initialized RX11 ∈ AW := (aw_t1 1 rfl rfl)
set_option maxRecDepth 100000 in
theorem in_RX12 : Cond.initialized RX12 ∈ AW := (aw_t1 13 rfl rfl)
set_option maxRecDepth 100000 in
theorem in_RJ6 : Cond.initialized RJ6 ∈ AW := (aw_t1 21 rfl rfl)
set_option maxRecDepth 100000 in
theorem in_RJ9 : Cond.initialized RJ9 ∈ AW := (aw_t1 2 rfl rfl)
set_option maxRecDepth 100000 in
theorem in_RL : Cond.initialized RL ∈ AW := (aw_t1 0 rfl rfl)
set_option maxRecDepth 100000 in
theorem oi_RX11_3 : Cond.methodLink RX11 3 objectInit ∈ AW := (aw_t1 27 rfl rfl)
set_option maxRecDepth 100000 in
theorem cs_RX11_9 : CS RX11 9 yJ9_floorMod_7cf53 cJ9_floorMod_7cf53 3 (some .int) 2 := ⟨(aw_t1 30 rfl rfl), ys_J9_floorMod_7cf53, in_RJ9, yk_J9_floorMod_7cf53, yh_J9_floorMod_7cf53⟩
set_option maxRecDepth 100000 in
theorem ci_RX11_21 : CI RX11 21 yX4_init cX4_init 3 1 := ⟨(aw_t1 35 rfl rfl), yi_X4_init, in_RX4, yk_X4_init, rfl, yh_X4_init⟩
set_option maxRecDepth 100000 in
theorem ci_RX11_43 : CI RX11 43 yX8_init cX8_init 4 3 := ⟨(aw_t1 207 rfl rfl), yi_X8_init, in_RX8, yk_X8_init, rfl, yh_X8_init⟩
set_option maxRecDepth 100000 in
theorem ci_RX11_52 : CI RX11 52 yX1_init cX1_init 2 0 := ⟨(aw_t2 87 rfl rfl), yi_X1_init, in_RX1, yk_X1_init, rfl, yh_X1_init⟩
set_option maxRecDepth 100000 in
theorem ci_RX11_69 : CI RX11 69 yX0_init cX0_init 2 1 := ⟨(aw_t2 160 rfl rfl), yi_X0_init, in_RX0, yk_X0_init, rfl, yh_X0_init⟩
set_option maxRecDepth 100000 in
theorem ci_RX11_79 : CI RX11 79 yX7_init cX7_init 2 1 := ⟨(aw_t2 178 rfl rfl), yi_X7_init, in_RX7, yk_X7_init, rfl, yh_X7_init⟩
set_option maxRecDepth 100000 in
theorem cy_RX11_86 : CY RX11 86 11 yX11_isClient cX11_isClient 2 (some .boolean) 1 := ⟨by decide, ⟨_, _, _, rfl, rfl⟩, (aw_t3 75 rfl rfl), yi_X11_isClient, yv_X11_isClient, in_RX11, yk_X11_isClient, yh_X11_isClient⟩
set_option maxRecDepth 100000 in
theorem ci_RX11_115 : CI RX11 115 yX9_init cX9_init 6 5 := ⟨(aw_t4 85 rfl rfl), yi_X9_init, in_RX9, yk_X9_init, rfl, yh_X9_init⟩
set_option maxRecDepth 100000 in
theorem cy_RX11_118 : CY RX11 118 1 yX1_begin cX1_begin 2 none 1 := ⟨by decide, ⟨_, _, _, rfl, rfl⟩, (aw_t4 123 rfl rfl), yi_X1_begin, yv_X1_begin, in_RX1, yk_X1_begin, yh_X1_begin⟩
set_option maxRecDepth 100000 in
theorem cy_RX11_122 : CY RX11 122 11 yX11_stamp cX11_stamp 4 none 1 := ⟨by decide, ⟨_, _, _, rfl, rfl⟩, (aw_t4 127 rfl rfl), yi_X11_stamp, yv_X11_stamp, in_RX11, yk_X11_stamp, yh_X11_stamp⟩
set_option maxRecDepth 100000 in
theorem cy_RX11_130 : CY RX11 130 4 yX4_find cX4_find 3 (some .int) 1 := ⟨by decide, ⟨_, _, _, rfl, rfl⟩, (aw_t4 152 rfl rfl), yi_X4_find, yv_X4_find, in_RX4, yk_X4_find, yh_X4_find⟩
set_option maxRecDepth 100000 in
theorem cy_RX11_136 : CY RX11 136 11 yX11_handOver cX11_handOver 4 none 1 := ⟨by decide, ⟨_, _, _, rfl, rfl⟩, (aw_t4 158 rfl rfl), yi_X11_handOver, yv_X11_handOver, in_RX11, yk_X11_handOver, yh_X11_handOver⟩
set_option maxRecDepth 100000 in
theorem cy_RX11_139 : CY RX11 139 4 yX4_pull cX4_pull 4 (some (.object "OrderedWorks$Message")) 1 := ⟨by decide, ⟨_, _, _, rfl, rfl⟩, (aw_t4 162 rfl rfl), yi_X4_pull, yv_X4_pull, in_RX4, yk_X4_pull, yh_X4_pull⟩
set_option maxRecDepth 100000 in
theorem cy_RX11_151 : CY RX11 151 11 yX11_isReplica cX11_isReplica 2 (some .boolean) 1 := ⟨by decide, ⟨_, _, _, rfl, rfl⟩, (aw_t3 23 rfl rfl), yi_X11_isReplica, yv_X11_isReplica, in_RX11, yk_X11_isReplica, yh_X11_isReplica⟩
set_option maxRecDepth 100000 in
theorem cy_RX11_159 : CY RX11 159 11 yX11_downs cX11_downs 6 (some .int) 0 := ⟨by decide, ⟨_, _, _, rfl, rfl⟩, (aw_t5 120 rfl rfl), yi_X11_downs, yv_X11_downs, in_RX11, yk_X11_downs, yh_X11_downs⟩
set_option maxRecDepth 100000 in
theorem cy_RX11_172 : CY RX11 172 5 yX5_clear cX5_clear 1 none 0 := ⟨by decide, ⟨_, _, _, rfl, rfl⟩, (aw_t5 125 rfl rfl), yi_X5_clear, yv_X5_clear, in_RX5, yk_X5_clear, yh_X5_clear⟩
set_option maxRecDepth 100000 in
theorem cy_RX11_187 : CY RX11 187 8 yX8_turnToNextLead cX8_turnToNextLead 1 none 0 := ⟨by decide, ⟨_, _, _, rfl, rfl⟩, (aw_t5 142 rfl rfl), yi_X8_turnToNextLead, yv_X8_turnToNextLead, in_RX8, yk_X8_turnToNextLead, yh_X8_turnToNextLead⟩
set_option maxRecDepth 100000 in
theorem cy_RX11_193 : CY RX11 193 8 yX8_askAgain cX8_askAgain 1 none 0 := ⟨by decide, ⟨_, _, _, rfl, rfl⟩, (aw_t5 153 rfl rfl), yi_X8_askAgain, yv_X8_askAgain, in_RX8, yk_X8_askAgain, yh_X8_askAgain⟩
set_option maxRecDepth 100000 in
theorem cy_RX11_196 : CY RX11 196 8 yX8_leads cX8_leads 1 (some .boolean) 0 := ⟨by decide, ⟨_, _, _, rfl, rfl⟩, (aw_t3 195 rfl rfl), yi_X8_leads, yv_X8_leads, in_RX8, yk_X8_leads, yh_X8_leads⟩
set_option maxRecDepth 100000 in
theorem cy_RX11_205 : CY RX11 205 8 yX8_sendSync cX8_sendSync 1 none 0 := ⟨by decide, ⟨_, _, _, rfl, rfl⟩, (aw_t5 165 rfl rfl), yi_X8_sendSync, yv_X8_sendSync, in_RX8, yk_X8_sendSync, yh_X8_sendSync⟩
set_option maxRecDepth 100000 in
theorem cy_RX11_208 : CY RX11 208 11 yX11_passTick cX11_passTick 5 none 0 := ⟨by decide, ⟨_, _, _, rfl, rfl⟩, (aw_t5 176 rfl rfl), yi_X11_passTick, yv_X11_passTick, in_RX11, yk_X11_passTick, yh_X11_passTick⟩
set_option maxRecDepth 100000 in
theorem cy_RX11_219 : CY RX11 219 11 yX11_raiseSequencer cX11_raiseSequencer 1 none 0 := ⟨by decide, ⟨_, _, _, rfl, rfl⟩, (aw_t3 15 rfl rfl), yi_X11_raiseSequencer, yv_X11_raiseSequencer, in_RX11, yk_X11_raiseSequencer, yh_X11_raiseSequencer⟩
set_option maxRecDepth 100000 in
theorem cs_RX11_226 : CS RX11 226 yX11_leadOf cX11_leadOf 2 (some .int) 1 := ⟨(aw_t3 27 rfl rfl), ys_X11_leadOf, in_RX11, yk_X11_leadOf, yh_X11_leadOf⟩
set_option maxRecDepth 100000 in
theorem cs_RX11_230 : CS RX11 230 yX11_sessionOf cX11_sessionOf 2 (some .int) 1 := ⟨(aw_t3 30 rfl rfl), ys_X11_sessionOf, in_RX11, yk_X11_sessionOf, yh_X11_sessionOf⟩
set_option maxRecDepth 100000 in
theorem cy_RX11_257 : CY RX11 257 2 yX2_has cX2_has 2 (some .boolean) 1 := ⟨by decide, ⟨_, _, _, rfl, rfl⟩, (aw_t3 37 rfl rfl), yi_X2_has, yv_X2_has, in_RX2, yk_X2_has, yh_X2_has⟩
set_option maxRecDepth 100000 in
theorem cy_RX11_260 : CY RX11 260 2 yX2_at cX2_at 2 (some (.object "OrderedWorks$Request")) 1 := ⟨by decide, ⟨_, _, _, rfl, rfl⟩, (aw_t3 41 rfl rfl), yi_X2_at, yv_X2_at, in_RX2, yk_X2_at, yh_X2_at⟩
set_option maxRecDepth 100000 in
theorem cy_RX11_279 : CY RX11 279 8 yX8_executedEnd cX8_executedEnd 1 (some .int) 0 := ⟨by decide, ⟨_, _, _, rfl, rfl⟩, (aw_t3 50 rfl rfl), yi_X8_executedEnd, yv_X8_executedEnd, in_RX8, yk_X8_executedEnd, yh_X8_executedEnd⟩
set_option maxRecDepth 100000 in
theorem cy_RX11_282 : CY RX11 282 10 yX10_replay cX10_replay 6 none 2 := ⟨by decide, ⟨_, _, _, rfl, rfl⟩, (aw_t3 67 rfl rfl), yi_X10_replay, yv_X10_replay, in_RX10, yk_X10_replay, yh_X10_replay⟩
set_option maxRecDepth 100000 in
theorem cy_RX11_303 : CY RX11 303 4 yX4_at cX4_at 2 (some (.object "OrderedWorks$Message")) 1 := ⟨by decide, ⟨_, _, _, rfl, rfl⟩, (aw_t3 91 rfl rfl), yi_X4_at, yv_X4_at, in_RX4, yk_X4_at, yh_X4_at⟩
set_option maxRecDepth 100000 in
theorem cy_RX11_315 : CY RX11 315 3 yX3_write cX3_write 2 none 1 := ⟨by decide, ⟨_, _, _, rfl, rfl⟩, (aw_t3 99 rfl rfl), yi_X3_write, yv_X3_write, in_RX3, yk_X3_write, yh_X3_write⟩
set_option maxRecDepth 100000 in
theorem cy_RX11_319 : CY RX11 319 8 yX8_writeHead cX8_writeHead 2 none 1 := ⟨by decide, ⟨_, _, _, rfl, rfl⟩, (aw_t5 202 rfl rfl), yi_X8_writeHead, yv_X8_writeHead, in_RX8, yk_X8_writeHead, yh_X8_writeHead⟩
set_option maxRecDepth 100000 in
theorem cy_RX11_322 : CY RX11 322 0 yX0_endBlock cX0_endBlock 2 none 1 := ⟨by decide, ⟨_, _, _, rfl, rfl⟩, (aw_t5 212 rfl rfl), yi_X0_endBlock, yv_X0_endBlock, in_RX0, yk_X0_endBlock, yh_X0_endBlock⟩
set_option maxRecDepth 100000 in
theorem cy_RX11_325 : CY RX11 325 2 yX2_writeEntries cX2_writeEntries 5 none 2 := ⟨by decide, ⟨_, _, _, rfl, rfl⟩, (aw_t5 219 rfl rfl), yi_X2_writeEntries, yv_X2_writeEntries, in_RX2, yk_X2_writeEntries, yh_X2_writeEntries⟩
set_option maxRecDepth 100000 in
theorem cy_RX11_329 : CY RX11 329 0 yX0_at cX0_at 2 (some .int) 1 := ⟨by decide, ⟨_, _, _, rfl, rfl⟩, (aw_t3 152 rfl rfl), yi_X0_at, yv_X0_at, in_RX0, yk_X0_at, yh_X0_at⟩
set_option maxRecDepth 100000 in
theorem cy_RX11_331 : CY RX11 331 0 yX0_add cX0_add 2 none 1 := ⟨by decide, ⟨_, _, _, rfl, rfl⟩, (aw_t3 160 rfl rfl), yi_X0_add, yv_X0_add, in_RX0, yk_X0_add, yh_X0_add⟩
set_option maxRecDepth 100000 in
theorem cy_RX11_334 : CY RX11 334 0 yX0_become cX0_become 3 none 1 := ⟨by decide, ⟨_, _, _, rfl, rfl⟩, (aw_t3 165 rfl rfl), yi_X0_become, yv_X0_become, in_RX0, yk_X0_become, yh_X0_become⟩
set_option maxRecDepth 100000 in
theorem cy_RX11_337 : CY RX11 337 0 yX0_turnBit cX0_turnBit 3 none 2 := ⟨by decide, ⟨_, _, _, rfl, rfl⟩, (aw_t3 170 rfl rfl), yi_X0_turnBit, yv_X0_turnBit, in_RX0, yk_X0_turnBit, yh_X0_turnBit⟩
set_option maxRecDepth 100000 in
theorem cy_RX11_341 : CY RX11 341 7 yX7_read cX7_read 2 none 0 := ⟨by decide, ⟨_, _, _, rfl, rfl⟩, (aw_t5 232 rfl rfl), yi_X7_read, yv_X7_read, in_RX7, yk_X7_read, yh_X7_read⟩
set_option maxRecDepth 100000 in
theorem cy_RX11_349 : CY RX11 349 7 yX7_at cX7_at 2 (some .int) 1 := ⟨by decide, ⟨_, _, _, rfl, rfl⟩, (aw_t3 182 rfl rfl), yi_X7_at, yv_X7_at, in_RX7, yk_X7_at, yh_X7_at⟩
set_option maxRecDepth 100000 in
theorem cs_RX11_354 : CS RX11 354 yJ9_min_7cf53 cJ9_min_7cf53 2 (some .int) 2 := ⟨(aw_t3 194 rfl rfl), ys_J9_min_7cf53, in_RJ9, yk_J9_min_7cf53, yh_J9_min_7cf53⟩
set_option maxRecDepth 100000 in
theorem cy_RX11_360 : CY RX11 360 11 yX11_judge cX11_judge 6 none 2 := ⟨by decide, ⟨_, _, _, rfl, rfl⟩, (aw_t3 196 rfl rfl), yi_X11_judge, yv_X11_judge, in_RX11, yk_X11_judge, yh_X11_judge⟩
set_option maxRecDepth 100000 in
theorem cs_RX11_364 : CS RX11 364 yX11_isBehind cX11_isBehind 4 (some .boolean) 2 := ⟨(aw_t3 200 rfl rfl), ys_X11_isBehind, in_RX11, yk_X11_isBehind, yh_X11_isBehind⟩
set_option maxRecDepth 100000 in
theorem cy_RX11_368 : CY RX11 368 10 yX10_keeps cX10_keeps 4 (some .boolean) 2 := ⟨by decide, ⟨_, _, _, rfl, rfl⟩, (aw_t3 203 rfl rfl), yi_X10_keeps, yv_X10_keeps, in_RX10, yk_X10_keeps, yh_X10_keeps⟩
set_option maxRecDepth 100000 in
theorem cs_RX11_375 : CS RX11 375 yX11_viewOf cX11_viewOf 2 (some .long) 2 := ⟨(aw_t4 131 rfl rfl), ys_X11_viewOf, in_RX11, yk_X11_viewOf, yh_X11_viewOf⟩
set_option maxRecDepth 100000 in
theorem cy_RX11_379 : CY RX11 379 4 yX4_send cX4_send 8 (some (.object "OrderedWorks$Message")) 5 := ⟨by decide, ⟨_, _, _, rfl, rfl⟩, (aw_t4 132 rfl rfl), yi_X4_send, yv_X4_send, in_RX4, yk_X4_send, yh_X4_send⟩
set_option maxRecDepth 100000 in
theorem cy_RX11_390 : CY RX11 390 8 yX8_passTick cX8_passTick 6 none 1 := ⟨by decide, ⟨_, _, _, rfl, rfl⟩, (aw_t5 180 rfl rfl), yi_X8_passTick, yv_X8_passTick, in_RX8, yk_X8_passTick, yh_X8_passTick⟩
set_option maxRecDepth 100000 in
theorem cy_RX11_392 : CY RX11 392 11 yX11_handToClient cX11_handToClient 4 none 1 := ⟨by decide, ⟨_, _, _, rfl, rfl⟩, (aw_t4 166 rfl rfl), yi_X11_handToClient, yv_X11_handToClient, in_RX11, yk_X11_handToClient, yh_X11_handToClient⟩
set_option maxRecDepth 100000 in
theorem cy_RX11_396 : CY RX11 396 8 yX8_hear cX8_hear 3 none 1 := ⟨by decide, ⟨_, _, _, rfl, rfl⟩, (aw_t4 194 rfl rfl), yi_X8_hear, yv_X8_hear, in_RX8, yk_X8_hear, yh_X8_hear⟩
set_option maxRecDepth 100000 in
theorem cy_RX11_400 : CY RX11 400 4 yX4_leaderOf cX4_leaderOf 3 (some .int) 1 := ⟨by decide, ⟨_, _, _, rfl, rfl⟩, (aw_t4 170 rfl rfl), yi_X4_leaderOf, yv_X4_leaderOf, in_RX4, yk_X4_leaderOf, yh_X4_leaderOf⟩
set_option maxRecDepth 100000 in
theorem cy_RX11_403 : CY RX11 403 1 yX1_hearReply cX1_hearReply 6 (some .boolean) 3 := ⟨by decide, ⟨_, _, _, rfl, rfl⟩, (aw_t4 171 rfl rfl), yi_X1_hearReply, yv_X1_hearReply, in_RX1, yk_X1_hearReply, yh_X1_hearReply⟩
set_option maxRecDepth 100000 in
theorem cy_RX11_407 : CY RX11 407 6 yX6_become cX6_become 2 none 1 := ⟨by decide, ⟨_, _, _, rfl, rfl⟩, (aw_t4 193 rfl rfl), yi_X6_become, yv_X6_become, in_RX6, yk_X6_become, yh_X6_become⟩
set_option maxRecDepth 100000 in
theorem oi_RX0_3 : Cond.methodLink RX0 3 objectInit ∈ AW := (aw_t2 163 rfl rfl)
set_option maxRecDepth 100000 in
theorem cs_RX0_9 : CS RX0 9 yJ9_max_7cf53 cJ9_max_7cf53 2 (some .int) 2 := ⟨(aw_t2 164 rfl rfl), ys_J9_max_7cf53, in_RJ9, yk_J9_max_7cf53, yh_J9_max_7cf53⟩
set_option maxRecDepth 100000 in
theorem cy_RX0_25 : CY RX0 25 0 yX0_add cX0_add 2 none 1 := ⟨by decide, ⟨_, _, _, rfl, rfl⟩, (aw_t3 112 rfl rfl), yi_X0_add, yv_X0_add, in_RX0, yk_X0_add, yh_X0_add⟩
set_option maxRecDepth 100000 in
theorem cy_RX0_33 : CY RX0 33 0 yX0_addNumber cX0_addNumber 4 none 1 := ⟨by decide, ⟨_, _, _, rfl, rfl⟩, (aw_t3 118 rfl rfl), yi_X0_addNumber, yv_X0_addNumber, in_RX0, yk_X0_addNumber, yh_X0_addNumber⟩
set_option maxRecDepth 100000 in
theorem cy_RX0_39 : CY RX0 39 0 yX0_addZeros cX0_addZeros 3 none 1 := ⟨by decide, ⟨_, _, _, rfl, rfl⟩, (aw_t5 216 rfl rfl), yi_X0_addZeros, yv_X0_addZeros, in_RX0, yk_X0_addZeros, yh_X0_addZeros⟩
set_option maxRecDepth 100000 in
theorem cy_RX0_42 : CY RX0 42 0 yX0_sumOf cX0_sumOf 6 (some .int) 2 := ⟨by decide, ⟨_, _, _, rfl, rfl⟩, (aw_t5 217 rfl rfl), yi_X0_sumOf, yv_X0_sumOf, in_RX0, yk_X0_sumOf, yh_X0_sumOf⟩
set_option maxRecDepth 100000 in
theorem cy_RX0_45 : CY RX0 45 0 yX0_addWord cX0_addWord 3 none 1 := ⟨by decide, ⟨_, _, _, rfl, rfl⟩, (aw_t5 218 rfl rfl), yi_X0_addWord, yv_X0_addWord, in_RX0, yk_X0_addWord, yh_X0_addWord⟩
set_option maxRecDepth 100000 in
theorem cs_RX0_48 : CS RX0 48 yJ9_min_7cf53 cJ9_min_7cf53 2 (some .int) 2 := ⟨(aw_t3 169 rfl rfl), ys_J9_min_7cf53, in_RJ9, yk_J9_min_7cf53, yh_J9_min_7cf53⟩
set_option maxRecDepth 100000 in
theorem oi_RX1_3 : Cond.methodLink RX1 3 objectInit ∈ AW := (aw_t2 90 rfl rfl)
set_option maxRecDepth 100000 in
theorem cy_RX1_57 : CY RX1 57 1 yX1_placeOf cX1_placeOf 6 (some (.object "OrderedWorks$Place")) 2 := ⟨by decide, ⟨_, _, _, rfl, rfl⟩, (aw_t4 175 rfl rfl), yi_X1_placeOf, yv_X1_placeOf, in_RX1, yk_X1_placeOf, yh_X1_placeOf⟩
set_option maxRecDepth 100000 in
theorem cs_RX1_74 : CS RX1 74 yJ6_bitCount_0f7a4 cJ6_bitCount_0f7a4 1 (some .int) 1 := ⟨(aw_t4 183 rfl rfl), ys_J6_bitCount_0f7a4, in_RJ6, yk_J6_bitCount_0f7a4, yh_J6_bitCount_0f7a4⟩
set_option maxRecDepth 100000 in
theorem cy_RX1_80 : CY RX1 80 6 yX6_become cX6_become 2 none 1 := ⟨by decide, ⟨_, _, _, rfl, rfl⟩, (aw_t4 189 rfl rfl), yi_X6_become, yv_X6_become, in_RX6, yk_X6_become, yh_X6_become⟩
set_option maxRecDepth 100000 in
theorem cy_RX1_86 : CY RX1 86 6 yX6_begin cX6_begin 5 none 3 := ⟨by decide, ⟨_, _, _, rfl, rfl⟩, (aw_t4 179 rfl rfl), yi_X6_begin, yv_X6_begin, in_RX6, yk_X6_begin, yh_X6_begin⟩
set_option maxRecDepth 100000 in
theorem oi_RX2_3 : Cond.methodLink RX2 3 objectInit ∈ AW := (aw_t1 51 rfl rfl)
set_option maxRecDepth 100000 in
theorem cy_RX2_21 : CY RX2 21 2 yX2_has cX2_has 2 (some .boolean) 1 := ⟨by decide, ⟨_, _, _, rfl, rfl⟩, (aw_t3 45 rfl rfl), yi_X2_has, yv_X2_has, in_RX2, yk_X2_has, yh_X2_has⟩
set_option maxRecDepth 100000 in
theorem cy_RX2_28 : CY RX2 28 2 yX2_copyFirst cX2_copyFirst 3 none 1 := ⟨by decide, ⟨_, _, _, rfl, rfl⟩, (aw_t4 223 rfl rfl), yi_X2_copyFirst, yv_X2_copyFirst, in_RX2, yk_X2_copyFirst, yh_X2_copyFirst⟩
set_option maxRecDepth 100000 in
theorem cy_RX2_32 : CY RX2 32 0 yX0_addNumber cX0_addNumber 4 none 1 := ⟨by decide, ⟨_, _, _, rfl, rfl⟩, (aw_t3 128 rfl rfl), yi_X0_addNumber, yv_X0_addNumber, in_RX0, yk_X0_addNumber, yh_X0_addNumber⟩
set_option maxRecDepth 100000 in
theorem cy_RX2_38 : CY RX2 38 2 yX2_at cX2_at 2 (some (.object "OrderedWorks$Request")) 1 := ⟨by decide, ⟨_, _, _, rfl, rfl⟩, (aw_t3 129 rfl rfl), yi_X2_at, yv_X2_at, in_RX2, yk_X2_at, yh_X2_at⟩
set_option maxRecDepth 100000 in
theorem cy_RX2_42 : CY RX2 42 0 yX0_add cX0_add 2 none 1 := ⟨by decide, ⟨_, _, _, rfl, rfl⟩, (aw_t3 130 rfl rfl), yi_X0_add, yv_X0_add, in_RX0, yk_X0_add, yh_X0_add⟩
set_option maxRecDepth 100000 in
theorem cy_RX2_45 : CY RX2 45 9 yX9_write cX9_write 2 none 1 := ⟨by decide, ⟨_, _, _, rfl, rfl⟩, (aw_t3 131 rfl rfl), yi_X9_write, yv_X9_write, in_RX9, yk_X9_write, yh_X9_write⟩
set_option maxRecDepth 100000 in
theorem cy_RX2_49 : CY RX2 49 0 yX0_addZeros cX0_addZeros 3 none 1 := ⟨by decide, ⟨_, _, _, rfl, rfl⟩, (aw_t5 223 rfl rfl), yi_X0_addZeros, yv_X0_addZeros, in_RX0, yk_X0_addZeros, yh_X0_addZeros⟩
set_option maxRecDepth 100000 in
theorem cy_RX2_64 : CY RX2 64 0 yX0_addWord cX0_addWord 3 none 1 := ⟨by decide, ⟨_, _, _, rfl, rfl⟩, (aw_t5 224 rfl rfl), yi_X0_addWord, yv_X0_addWord, in_RX0, yk_X0_addWord, yh_X0_addWord⟩
set_option maxRecDepth 100000 in
theorem oi_RX3_3 : Cond.methodLink RX3 3 objectInit ∈ AW := (aw_t1 45 rfl rfl)
set_option maxRecDepth 100000 in
theorem cy_RX3_27 : CY RX3 27 0 yX0_add cX0_add 2 none 1 := ⟨by decide, ⟨_, _, _, rfl, rfl⟩, (aw_t3 103 rfl rfl), yi_X0_add, yv_X0_add, in_RX0, yk_X0_add, yh_X0_add⟩
set_option maxRecDepth 100000 in
theorem cy_RX3_45 : CY RX3 45 0 yX0_addNumber cX0_addNumber 4 none 1 := ⟨by decide, ⟨_, _, _, rfl, rfl⟩, (aw_t3 108 rfl rfl), yi_X0_addNumber, yv_X0_addNumber, in_RX0, yk_X0_addNumber, yh_X0_addNumber⟩
set_option maxRecDepth 100000 in
theorem cy_RX3_48 : CY RX3 48 0 yX0_addView cX0_addView 3 none 1 := ⟨by decide, ⟨_, _, _, rfl, rfl⟩, (aw_t3 113 rfl rfl), yi_X0_addView, yv_X0_addView, in_RX0, yk_X0_addView, yh_X0_addView⟩
set_option maxRecDepth 100000 in
theorem cy_RX3_52 : CY RX3 52 3 yX3_writeRest cX3_writeRest 2 none 1 := ⟨by decide, ⟨_, _, _, rfl, rfl⟩, (aw_t3 120 rfl rfl), yi_X3_writeRest, yv_X3_writeRest, in_RX3, yk_X3_writeRest, yh_X3_writeRest⟩
set_option maxRecDepth 100000 in
theorem cy_RX3_56 : CY RX3 56 0 yX0_sumOf cX0_sumOf 6 (some .int) 2 := ⟨by decide, ⟨_, _, _, rfl, rfl⟩, (aw_t3 143 rfl rfl), yi_X0_sumOf, yv_X0_sumOf, in_RX0, yk_X0_sumOf, yh_X0_sumOf⟩
set_option maxRecDepth 100000 in
theorem cy_RX3_60 : CY RX3 60 0 yX0_addWord cX0_addWord 3 none 1 := ⟨by decide, ⟨_, _, _, rfl, rfl⟩, (aw_t3 141 rfl rfl), yi_X0_addWord, yv_X0_addWord, in_RX0, yk_X0_addWord, yh_X0_addWord⟩
set_option maxRecDepth 100000 in
theorem cy_RX3_63 : CY RX3 63 2 yX2_write cX2_write 4 none 1 := ⟨by decide, ⟨_, _, _, rfl, rfl⟩, (aw_t3 124 rfl rfl), yi_X2_write, yv_X2_write, in_RX2, yk_X2_write, yh_X2_write⟩
set_option maxRecDepth 100000 in
theorem cy_RX3_89 : CY RX3 89 9 yX9_write cX9_write 2 none 1 := ⟨by decide, ⟨_, _, _, rfl, rfl⟩, (aw_t3 142 rfl rfl), yi_X9_write, yv_X9_write, in_RX9, yk_X9_write, yh_X9_write⟩
set_option maxRecDepth 100000 in
theorem oi_RX4_3 : Cond.methodLink RX4 3 objectInit ∈ AW := (aw_t1 38 rfl rfl)
set_option maxRecDepth 100000 in
theorem cs_RX4_36 : CS RX4 36 yJ9_floorMod_7cf53 cJ9_floorMod_7cf53 3 (some .int) 2 := ⟨(aw_t3 63 rfl rfl), ys_J9_floorMod_7cf53, in_RJ9, yk_J9_floorMod_7cf53, yh_J9_floorMod_7cf53⟩
set_option maxRecDepth 100000 in
theorem cy_RX4_45 : CY RX4 45 4 yX4_at cX4_at 2 (some (.object "OrderedWorks$Message")) 1 := ⟨by decide, ⟨_, _, _, rfl, rfl⟩, (aw_t4 156 rfl rfl), yi_X4_at, yv_X4_at, in_RX4, yk_X4_at, yh_X4_at⟩
set_option maxRecDepth 100000 in
theorem oi_RX5_3 : Cond.methodLink RX5 3 objectInit ∈ AW := (aw_t1 222 rfl rfl)
set_option maxRecDepth 100000 in
theorem cs_RX5_21 : CS RX5 21 yJ9_max_7cf53 cJ9_max_7cf53 2 (some .int) 2 := ⟨(aw_t1 224 rfl rfl), ys_J9_max_7cf53, in_RJ9, yk_J9_max_7cf53, yh_J9_max_7cf53⟩
set_option maxRecDepth 100000 in
theorem cy_RX5_54 : CY RX5 54 5 yX5_find cX5_find 3 (some .int) 1 := ⟨by decide, ⟨_, _, _, rfl, rfl⟩, (aw_t4 239 rfl rfl), yi_X5_find, yv_X5_find, in_RX5, yk_X5_find, yh_X5_find⟩
set_option maxRecDepth 100000 in
theorem cy_RX5_71 : CY RX5 71 2 yX2_become cX2_become 2 none 1 := ⟨by decide, ⟨_, _, _, rfl, rfl⟩, (aw_t5 69 rfl rfl), yi_X2_become, yv_X2_become, in_RX2, yk_X2_become, yh_X2_become⟩
set_option maxRecDepth 100000 in
theorem oi_RX6_1 : Cond.methodLink RX6 1 objectInit ∈ AW := (aw_t2 96 rfl rfl)
set_option maxRecDepth 100000 in
theorem oi_RX7_3 : Cond.methodLink RX7 3 objectInit ∈ AW := (aw_t2 181 rfl rfl)
set_option maxRecDepth 100000 in
theorem cy_RX7_32 : CY RX7 32 7 yX7_readByte cX7_readByte 3 (some .int) 1 := ⟨by decide, ⟨_, _, _, rfl, rfl⟩, (aw_t5 236 rfl rfl), yi_X7_readByte, yv_X7_readByte, in_RX7, yk_X7_readByte, yh_X7_readByte⟩
set_option maxRecDepth 100000 in
theorem cy_RX7_36 : CY RX7 36 7 yX7_readSender cX7_readSender 2 none 0 := ⟨by decide, ⟨_, _, _, rfl, rfl⟩, (aw_t6 13 rfl rfl), yi_X7_readSender, yv_X7_readSender, in_RX7, yk_X7_readSender, yh_X7_readSender⟩
set_option maxRecDepth 100000 in
theorem cy_RX7_39 : CY RX7 39 7 yX7_readReceiver cX7_readReceiver 3 none 0 := ⟨by decide, ⟨_, _, _, rfl, rfl⟩, (aw_t6 17 rfl rfl), yi_X7_readReceiver, yv_X7_readReceiver, in_RX7, yk_X7_readReceiver, yh_X7_readReceiver⟩
set_option maxRecDepth 100000 in
theorem cy_RX7_42 : CY RX7 42 7 yX7_readRest cX7_readRest 2 none 1 := ⟨by decide, ⟨_, _, _, rfl, rfl⟩, (aw_t6 21 rfl rfl), yi_X7_readRest, yv_X7_readRest, in_RX7, yk_X7_readRest, yh_X7_readRest⟩
set_option maxRecDepth 100000 in
theorem cy_RX7_46 : CY RX7 46 7 yX7_readSum cX7_readSum 4 none 0 := ⟨by decide, ⟨_, _, _, rfl, rfl⟩, (aw_t6 42 rfl rfl), yi_X7_readSum, yv_X7_readSum, in_RX7, yk_X7_readSum, yh_X7_readSum⟩
set_option maxRecDepth 100000 in
theorem cy_RX7_54 : CY RX7 54 7 yX7_spoil cX7_spoil 3 none 2 := ⟨by decide, ⟨_, _, _, rfl, rfl⟩, (aw_t6 5 rfl rfl), yi_X7_spoil, yv_X7_spoil, in_RX7, yk_X7_spoil, yh_X7_spoil⟩
set_option maxRecDepth 100000 in
theorem cy_RX7_58 : CY RX7 58 7 yX7_readNumber cX7_readNumber 6 (some .int) 0 := ⟨by decide, ⟨_, _, _, rfl, rfl⟩, (aw_t6 25 rfl rfl), yi_X7_readNumber, yv_X7_readNumber, in_RX7, yk_X7_readNumber, yh_X7_readNumber⟩
set_option maxRecDepth 100000 in
theorem cy_RX7_62 : CY RX7 62 7 yX7_readLog cX7_readLog 4 none 0 := ⟨by decide, ⟨_, _, _, rfl, rfl⟩, (aw_t6 30 rfl rfl), yi_X7_readLog, yv_X7_readLog, in_RX7, yk_X7_readLog, yh_X7_readLog⟩
set_option maxRecDepth 100000 in
theorem cy_RX7_65 : CY RX7 65 7 yX7_nextWord cX7_nextWord 3 (some .int) 0 := ⟨by decide, ⟨_, _, _, rfl, rfl⟩, (aw_t6 38 rfl rfl), yi_X7_nextWord, yv_X7_nextWord, in_RX7, yk_X7_nextWord, yh_X7_nextWord⟩
set_option maxRecDepth 100000 in
theorem cy_RX7_68 : CY RX7 68 7 yX7_tell cX7_tell 2 none 1 := ⟨by decide, ⟨_, _, _, rfl, rfl⟩, (aw_t6 9 rfl rfl), yi_X7_tell, yv_X7_tell, in_RX7, yk_X7_tell, yh_X7_tell⟩
set_option maxRecDepth 100000 in
theorem cy_RX7_71 : CY RX7 71 7 yX7_readRequest cX7_readRequest 1 none 0 := ⟨by decide, ⟨_, _, _, rfl, rfl⟩, (aw_t6 34 rfl rfl), yi_X7_readRequest, yv_X7_readRequest, in_RX7, yk_X7_readRequest, yh_X7_readRequest⟩
set_option maxRecDepth 100000 in
theorem cy_RX7_74 : CY RX7 74 0 yX0_sumOf cX0_sumOf 6 (some .int) 2 := ⟨by decide, ⟨_, _, _, rfl, rfl⟩, (aw_t6 46 rfl rfl), yi_X0_sumOf, yv_X0_sumOf, in_RX0, yk_X0_sumOf, yh_X0_sumOf⟩
set_option maxRecDepth 100000 in
theorem cy_RX7_78 : CY RX7 78 7 yX7_nextByte cX7_nextByte 2 (some .int) 0 := ⟨by decide, ⟨_, _, _, rfl, rfl⟩, (aw_t6 0 rfl rfl), yi_X7_nextByte, yv_X7_nextByte, in_RX7, yk_X7_nextByte, yh_X7_nextByte⟩
set_option maxRecDepth 100000 in
theorem cy_RX7_83 : CY RX7 83 0 yX0_at cX0_at 2 (some .int) 1 := ⟨by decide, ⟨_, _, _, rfl, rfl⟩, (aw_t6 4 rfl rfl), yi_X0_at, yv_X0_at, in_RX0, yk_X0_at, yh_X0_at⟩
set_option maxRecDepth 100000 in
theorem oi_RX8_3 : Cond.methodLink RX8 3 objectInit ∈ AW := (aw_t1 210 rfl rfl)
set_option maxRecDepth 100000 in
theorem ci_RX8_48 : CI RX8 48 yX5_init cX5_init 3 1 := ⟨(aw_t1 219 rfl rfl), yi_X5_init, in_RX5, yk_X5_init, rfl, yh_X5_init⟩
set_option maxRecDepth 100000 in
theorem cy_RX8_55 : CY RX8 55 4 yX4_leaderOf cX4_leaderOf 3 (some .int) 1 := ⟨by decide, ⟨_, _, _, rfl, rfl⟩, (aw_t3 58 rfl rfl), yi_X4_leaderOf, yv_X4_leaderOf, in_RX4, yk_X4_leaderOf, yh_X4_leaderOf⟩
set_option maxRecDepth 100000 in
theorem cy_RX8_59 : CY RX8 59 8 yX8_leads cX8_leads 1 (some .boolean) 0 := ⟨by decide, ⟨_, _, _, rfl, rfl⟩, (aw_t3 54 rfl rfl), yi_X8_leads, yv_X8_leads, in_RX8, yk_X8_leads, yh_X8_leads⟩
set_option maxRecDepth 100000 in
theorem cs_RX8_72 : CS RX8 72 yJ9_min_7cf53 cJ9_min_7cf53 2 (some .int) 2 := ⟨(aw_t3 64 rfl rfl), ys_J9_min_7cf53, in_RJ9, yk_J9_min_7cf53, yh_J9_min_7cf53⟩
set_option maxRecDepth 100000 in
theorem cy_RX8_93 : CY RX8 93 8 yX8_follow cX8_follow 4 none 1 := ⟨by decide, ⟨_, _, _, rfl, rfl⟩, (aw_t4 198 rfl rfl), yi_X8_follow, yv_X8_follow, in_RX8, yk_X8_follow, yh_X8_follow⟩
set_option maxRecDepth 100000 in
theorem cy_RX8_97 : CY RX8 97 8 yX8_hearStamped cX8_hearStamped 4 none 1 := ⟨by decide, ⟨_, _, _, rfl, rfl⟩, (aw_t4 227 rfl rfl), yi_X8_hearStamped, yv_X8_hearStamped, in_RX8, yk_X8_hearStamped, yh_X8_hearStamped⟩
set_option maxRecDepth 100000 in
theorem cy_RX8_101 : CY RX8 101 8 yX8_hearLookup cX8_hearLookup 4 none 1 := ⟨by decide, ⟨_, _, _, rfl, rfl⟩, (aw_t5 25 rfl rfl), yi_X8_hearLookup, yv_X8_hearLookup, in_RX8, yk_X8_hearLookup, yh_X8_hearLookup⟩
set_option maxRecDepth 100000 in
theorem cy_RX8_104 : CY RX8 104 8 yX8_hearFound cX8_hearFound 2 none 1 := ⟨by decide, ⟨_, _, _, rfl, rfl⟩, (aw_t5 31 rfl rfl), yi_X8_hearFound, yv_X8_hearFound, in_RX8, yk_X8_hearFound, yh_X8_hearFound⟩
set_option maxRecDepth 100000 in
theorem cy_RX8_110 : CY RX8 110 8 yX8_hearGapCommit cX8_hearGapCommit 3 none 1 := ⟨by decide, ⟨_, _, _, rfl, rfl⟩, (aw_t5 35 rfl rfl), yi_X8_hearGapCommit, yv_X8_hearGapCommit, in_RX8, yk_X8_hearGapCommit, yh_X8_hearGapCommit⟩
set_option maxRecDepth 100000 in
theorem cy_RX8_113 : CY RX8 113 8 yX8_hearGapReply cX8_hearGapReply 2 none 1 := ⟨by decide, ⟨_, _, _, rfl, rfl⟩, (aw_t5 43 rfl rfl), yi_X8_hearGapReply, yv_X8_hearGapReply, in_RX8, yk_X8_hearGapReply, yh_X8_hearGapReply⟩
set_option maxRecDepth 100000 in
theorem cy_RX8_117 : CY RX8 117 8 yX8_hearSync cX8_hearSync 2 none 1 := ⟨by decide, ⟨_, _, _, rfl, rfl⟩, (aw_t5 48 rfl rfl), yi_X8_hearSync, yv_X8_hearSync, in_RX8, yk_X8_hearSync, yh_X8_hearSync⟩
set_option maxRecDepth 100000 in
theorem cy_RX8_121 : CY RX8 121 8 yX8_hearSyncReply cX8_hearSyncReply 3 none 1 := ⟨by decide, ⟨_, _, _, rfl, rfl⟩, (aw_t5 53 rfl rfl), yi_X8_hearSyncReply, yv_X8_hearSyncReply, in_RX8, yk_X8_hearSyncReply, yh_X8_hearSyncReply⟩
set_option maxRecDepth 100000 in
theorem cy_RX8_124 : CY RX8 124 8 yX8_hearPoint cX8_hearPoint 2 none 1 := ⟨by decide, ⟨_, _, _, rfl, rfl⟩, (aw_t5 57 rfl rfl), yi_X8_hearPoint, yv_X8_hearPoint, in_RX8, yk_X8_hearPoint, yh_X8_hearPoint⟩
set_option maxRecDepth 100000 in
theorem cy_RX8_127 : CY RX8 127 8 yX8_hearTurned cX8_hearTurned 2 none 1 := ⟨by decide, ⟨_, _, _, rfl, rfl⟩, (aw_t5 61 rfl rfl), yi_X8_hearTurned, yv_X8_hearTurned, in_RX8, yk_X8_hearTurned, yh_X8_hearTurned⟩
set_option maxRecDepth 100000 in
theorem cy_RX8_130 : CY RX8 130 8 yX8_hearStart cX8_hearStart 2 none 1 := ⟨by decide, ⟨_, _, _, rfl, rfl⟩, (aw_t5 93 rfl rfl), yi_X8_hearStart, yv_X8_hearStart, in_RX8, yk_X8_hearStart, yh_X8_hearStart⟩
set_option maxRecDepth 100000 in
theorem cy_RX8_139 : CY RX8 139 8 yX8_turn cX8_turn 3 none 1 := ⟨by decide, ⟨_, _, _, rfl, rfl⟩, (aw_t4 206 rfl rfl), yi_X8_turn, yv_X8_turn, in_RX8, yk_X8_turn, yh_X8_turn⟩
set_option maxRecDepth 100000 in
theorem cy_RX8_148 : CY RX8 148 5 yX5_find cX5_find 3 (some .int) 1 := ⟨by decide, ⟨_, _, _, rfl, rfl⟩, (aw_t4 231 rfl rfl), yi_X5_find, yv_X5_find, in_RX5, yk_X5_find, yh_X5_find⟩
set_option maxRecDepth 100000 in
theorem cy_RX8_156 : CY RX8 156 5 yX5_hold cX5_hold 4 none 2 := ⟨by decide, ⟨_, _, _, rfl, rfl⟩, (aw_t4 235 rfl rfl), yi_X5_hold, yv_X5_hold, in_RX5, yk_X5_hold, yh_X5_hold⟩
set_option maxRecDepth 100000 in
theorem cy_RX8_160 : CY RX8 160 8 yX8_takeHeld cX8_takeHeld 4 none 0 := ⟨by decide, ⟨_, _, _, rfl, rfl⟩, (aw_t5 0 rfl rfl), yi_X8_takeHeld, yv_X8_takeHeld, in_RX8, yk_X8_takeHeld, yh_X8_takeHeld⟩
set_option maxRecDepth 100000 in
theorem cy_RX8_163 : CY RX8 163 2 yX2_has cX2_has 2 (some .boolean) 1 := ⟨by decide, ⟨_, _, _, rfl, rfl⟩, (aw_t5 29 rfl rfl), yi_X2_has, yv_X2_has, in_RX2, yk_X2_has, yh_X2_has⟩
set_option maxRecDepth 100000 in
theorem cy_RX8_167 : CY RX8 167 2 yX2_at cX2_at 2 (some (.object "OrderedWorks$Request")) 1 := ⟨by decide, ⟨_, _, _, rfl, rfl⟩, (aw_t5 30 rfl rfl), yi_X2_at, yv_X2_at, in_RX2, yk_X2_at, yh_X2_at⟩
set_option maxRecDepth 100000 in
theorem cy_RX8_171 : CY RX8 171 4 yX4_send cX4_send 8 (some (.object "OrderedWorks$Message")) 5 := ⟨by decide, ⟨_, _, _, rfl, rfl⟩, (aw_t4 218 rfl rfl), yi_X4_send, yv_X4_send, in_RX4, yk_X4_send, yh_X4_send⟩
set_option maxRecDepth 100000 in
theorem cy_RX8_175 : CY RX8 175 2 yX2_isFull cX2_isFull 1 (some .boolean) 0 := ⟨by decide, ⟨_, _, _, rfl, rfl⟩, (aw_t5 4 rfl rfl), yi_X2_isFull, yv_X2_isFull, in_RX2, yk_X2_isFull, yh_X2_isFull⟩
set_option maxRecDepth 100000 in
theorem cy_RX8_178 : CY RX8 178 5 yX5_release cX5_release 4 (some (.object "OrderedWorks$Request")) 1 := ⟨by decide, ⟨_, _, _, rfl, rfl⟩, (aw_t5 8 rfl rfl), yi_X5_release, yv_X5_release, in_RX5, yk_X5_release, yh_X5_release⟩
set_option maxRecDepth 100000 in
theorem cy_RX8_181 : CY RX8 181 2 yX2_add cX2_add 2 none 1 := ⟨by decide, ⟨_, _, _, rfl, rfl⟩, (aw_t5 12 rfl rfl), yi_X2_add, yv_X2_add, in_RX2, yk_X2_add, yh_X2_add⟩
set_option maxRecDepth 100000 in
theorem cy_RX8_185 : CY RX8 185 2 yX2_replace cX2_replace 3 none 2 := ⟨by decide, ⟨_, _, _, rfl, rfl⟩, (aw_t5 39 rfl rfl), yi_X2_replace, yv_X2_replace, in_RX2, yk_X2_replace, yh_X2_replace⟩
set_option maxRecDepth 100000 in
theorem cs_RX8_191 : CS RX8 191 yJ6_bitCount_0f7a4 cJ6_bitCount_0f7a4 1 (some .int) 1 := ⟨(aw_t5 47 rfl rfl), ys_J6_bitCount_0f7a4, in_RJ6, yk_J6_bitCount_0f7a4, yh_J6_bitCount_0f7a4⟩
set_option maxRecDepth 100000 in
theorem cy_RX8_199 : CY RX8 199 2 yX2_copyFirst cX2_copyFirst 3 none 1 := ⟨by decide, ⟨_, _, _, rfl, rfl⟩, (aw_t5 52 rfl rfl), yi_X2_copyFirst, yv_X2_copyFirst, in_RX2, yk_X2_copyFirst, yh_X2_copyFirst⟩
set_option maxRecDepth 100000 in
theorem cs_RX8_205 : CS RX8 205 yJ9_max_7cf53 cJ9_max_7cf53 2 (some .int) 2 := ⟨(aw_t4 204 rfl rfl), ys_J9_max_7cf53, in_RJ9, yk_J9_max_7cf53, yh_J9_max_7cf53⟩
set_option maxRecDepth 100000 in
theorem cy_RX8_214 : CY RX8 214 8 yX8_sendOthers cX8_sendOthers 4 none 2 := ⟨by decide, ⟨_, _, _, rfl, rfl⟩, (aw_t5 21 rfl rfl), yi_X8_sendOthers, yv_X8_sendOthers, in_RX8, yk_X8_sendOthers, yh_X8_sendOthers⟩
set_option maxRecDepth 100000 in
theorem cy_RX8_218 : CY RX8 218 2 yX2_become cX2_become 2 none 1 := ⟨by decide, ⟨_, _, _, rfl, rfl⟩, (aw_t4 219 rfl rfl), yi_X2_become, yv_X2_become, in_RX2, yk_X2_become, yh_X2_become⟩
set_option maxRecDepth 100000 in
theorem cy_RX8_221 : CY RX8 221 5 yX5_countTurned cX5_countTurned 3 none 1 := ⟨by decide, ⟨_, _, _, rfl, rfl⟩, (aw_t5 65 rfl rfl), yi_X5_countTurned, yv_X5_countTurned, in_RX5, yk_X5_countTurned, yh_X5_countTurned⟩
set_option maxRecDepth 100000 in
theorem cy_RX8_227 : CY RX8 227 8 yX8_merge cX8_merge 7 none 0 := ⟨by decide, ⟨_, _, _, rfl, rfl⟩, (aw_t5 70 rfl rfl), yi_X8_merge, yv_X8_merge, in_RX8, yk_X8_merge, yh_X8_merge⟩
set_option maxRecDepth 100000 in
theorem cy_RX8_234 : CY RX8 234 8 yX8_becomeNormal cX8_becomeNormal 1 none 0 := ⟨by decide, ⟨_, _, _, rfl, rfl⟩, (aw_t5 85 rfl rfl), yi_X8_becomeNormal, yv_X8_becomeNormal, in_RX8, yk_X8_becomeNormal, yh_X8_becomeNormal⟩
set_option maxRecDepth 100000 in
theorem cy_RX8_237 : CY RX8 237 8 yX8_sendReply cX8_sendReply 4 none 2 := ⟨by decide, ⟨_, _, _, rfl, rfl⟩, (aw_t5 16 rfl rfl), yi_X8_sendReply, yv_X8_sendReply, in_RX8, yk_X8_sendReply, yh_X8_sendReply⟩
set_option maxRecDepth 100000 in
theorem cy_RX8_244 : CY RX8 244 10 yX10_replay cX10_replay 6 none 2 := ⟨by decide, ⟨_, _, _, rfl, rfl⟩, (aw_t5 20 rfl rfl), yi_X10_replay, yv_X10_replay, in_RX10, yk_X10_replay, yh_X10_replay⟩
set_option maxRecDepth 100000 in
theorem cy_RX8_273 : CY RX8 273 5 yX5_clear cX5_clear 1 none 0 := ⟨by decide, ⟨_, _, _, rfl, rfl⟩, (aw_t4 210 rfl rfl), yi_X5_clear, yv_X5_clear, in_RX5, yk_X5_clear, yh_X5_clear⟩
set_option maxRecDepth 100000 in
theorem cy_RX8_279 : CY RX8 279 8 yX8_tellTurn cX8_tellTurn 3 none 0 := ⟨by decide, ⟨_, _, _, rfl, rfl⟩, (aw_t4 214 rfl rfl), yi_X8_tellTurn, yv_X8_tellTurn, in_RX8, yk_X8_tellTurn, yh_X8_tellTurn⟩
set_option maxRecDepth 100000 in
theorem cs_RX8_287 : CS RX8 287 yJ9_max_f86c9 cJ9_max_f86c9 4 (some .long) 2 := ⟨(aw_t5 74 rfl rfl), ys_J9_max_f86c9, in_RJ9, yk_J9_max_f86c9, yh_J9_max_f86c9⟩
set_option maxRecDepth 100000 in
theorem cy_RX8_290 : CY RX8 290 5 yX5_looksAt cX5_looksAt 4 (some .boolean) 2 := ⟨by decide, ⟨_, _, _, rfl, rfl⟩, (aw_t5 77 rfl rfl), yi_X5_looksAt, yv_X5_looksAt, in_RX5, yk_X5_looksAt, yh_X5_looksAt⟩
set_option maxRecDepth 100000 in
theorem cy_RX8_302 : CY RX8 302 8 yX8_mergedEntry cX8_mergedEntry 8 (some (.object "OrderedWorks$Request")) 2 := ⟨by decide, ⟨_, _, _, rfl, rfl⟩, (aw_t5 81 rfl rfl), yi_X8_mergedEntry, yv_X8_mergedEntry, in_RX8, yk_X8_mergedEntry, yh_X8_mergedEntry⟩
set_option maxRecDepth 100000 in
theorem cy_RX8_306 : CY RX8 306 8 yX8_sendLogToOthers cX8_sendLogToOthers 3 none 1 := ⟨by decide, ⟨_, _, _, rfl, rfl⟩, (aw_t5 89 rfl rfl), yi_X8_sendLogToOthers, yv_X8_sendLogToOthers, in_RX8, yk_X8_sendLogToOthers, yh_X8_sendLogToOthers⟩
set_option maxRecDepth 100000 in
theorem cy_RX8_312 : CY RX8 312 8 yX8_turnToNextLead cX8_turnToNextLead 1 none 0 := ⟨by decide, ⟨_, _, _, rfl, rfl⟩, (aw_t5 184 rfl rfl), yi_X8_turnToNextLead, yv_X8_turnToNextLead, in_RX8, yk_X8_turnToNextLead, yh_X8_turnToNextLead⟩
set_option maxRecDepth 100000 in
theorem cy_RX8_315 : CY RX8 315 8 yX8_askAgain cX8_askAgain 1 none 0 := ⟨by decide, ⟨_, _, _, rfl, rfl⟩, (aw_t5 185 rfl rfl), yi_X8_askAgain, yv_X8_askAgain, in_RX8, yk_X8_askAgain, yh_X8_askAgain⟩
set_option maxRecDepth 100000 in
theorem cy_RX8_321 : CY RX8 321 8 yX8_sendSync cX8_sendSync 1 none 0 := ⟨by decide, ⟨_, _, _, rfl, rfl⟩, (aw_t5 186 rfl rfl), yi_X8_sendSync, yv_X8_sendSync, in_RX8, yk_X8_sendSync, yh_X8_sendSync⟩
set_option maxRecDepth 100000 in
theorem cy_RX8_324 : CY RX8 324 0 yX0_add cX0_add 2 none 1 := ⟨by decide, ⟨_, _, _, rfl, rfl⟩, (aw_t5 206 rfl rfl), yi_X0_add, yv_X0_add, in_RX0, yk_X0_add, yh_X0_add⟩
set_option maxRecDepth 100000 in
theorem cy_RX8_328 : CY RX8 328 0 yX0_addZeros cX0_addZeros 3 none 1 := ⟨by decide, ⟨_, _, _, rfl, rfl⟩, (aw_t5 207 rfl rfl), yi_X0_addZeros, yv_X0_addZeros, in_RX0, yk_X0_addZeros, yh_X0_addZeros⟩
set_option maxRecDepth 100000 in
theorem cy_RX8_331 : CY RX8 331 0 yX0_addWord cX0_addWord 3 none 1 := ⟨by decide, ⟨_, _, _, rfl, rfl⟩, (aw_t5 211 rfl rfl), yi_X0_addWord, yv_X0_addWord, in_RX0, yk_X0_addWord, yh_X0_addWord⟩
set_option maxRecDepth 100000 in
theorem oi_RX9_1 : Cond.methodLink RX9 1 objectInit ∈ AW := (aw_t4 88 rfl rfl)
set_option maxRecDepth 100000 in
theorem cy_RX9_25 : CY RX9 25 0 yX0_add cX0_add 2 none 1 := ⟨by decide, ⟨_, _, _, rfl, rfl⟩, (aw_t3 135 rfl rfl), yi_X0_add, yv_X0_add, in_RX0, yk_X0_add, yh_X0_add⟩
set_option maxRecDepth 100000 in
theorem cy_RX9_31 : CY RX9 31 0 yX0_addNumber cX0_addNumber 4 none 1 := ⟨by decide, ⟨_, _, _, rfl, rfl⟩, (aw_t3 136 rfl rfl), yi_X0_addNumber, yv_X0_addNumber, in_RX0, yk_X0_addNumber, yh_X0_addNumber⟩
set_option maxRecDepth 100000 in
theorem cy_RX9_34 : CY RX9 34 0 yX0_addWord cX0_addWord 3 none 1 := ⟨by decide, ⟨_, _, _, rfl, rfl⟩, (aw_t3 137 rfl rfl), yi_X0_addWord, yv_X0_addWord, in_RX0, yk_X0_addWord, yh_X0_addWord⟩
set_option maxRecDepth 100000 in
theorem oi_RX10_3 : Cond.methodLink RX10 3 objectInit ∈ AW := (aw_t1 182 rfl rfl)
set_option maxRecDepth 100000 in
theorem cy_RX10_60 : CY RX10 60 2 yX2_at cX2_at 2 (some (.object "OrderedWorks$Request")) 1 := ⟨by decide, ⟨_, _, _, rfl, rfl⟩, (aw_t3 207 rfl rfl), yi_X2_at, yv_X2_at, in_RX2, yk_X2_at, yh_X2_at⟩
set_option maxRecDepth 100000 in
theorem cy_RL_7 : CY RL 7 11 yX11_request cX11_request 6 (some .int) 4 := ⟨by decide, ⟨_, _, _, rfl, rfl⟩, (aw_t3 220 rfl rfl), yi_X11_request, yv_X11_request, in_RX11, yk_X11_request, yh_X11_request⟩
set_option maxRecDepth 100000 in
theorem cy_RL_19 : CY RL 19 11 yX11_again cX11_again 3 none 1 := ⟨by decide, ⟨_, _, _, rfl, rfl⟩, (aw_t4 139 rfl rfl), yi_X11_again, yv_X11_again, in_RX11, yk_X11_again, yh_X11_again⟩
set_option maxRecDepth 100000 in
theorem cy_RL_23 : CY RL 23 11 yX11_deliver cX11_deliver 3 none 1 := ⟨by decide, ⟨_, _, _, rfl, rfl⟩, (aw_t4 148 rfl rfl), yi_X11_deliver, yv_X11_deliver, in_RX11, yk_X11_deliver, yh_X11_deliver⟩
set_option maxRecDepth 100000 in
theorem cy_RL_26 : CY RL 26 11 yX11_lose cX11_lose 3 none 1 := ⟨by decide, ⟨_, _, _, rfl, rfl⟩, (aw_t5 100 rfl rfl), yi_X11_lose, yv_X11_lose, in_RX11, yk_X11_lose, yh_X11_lose⟩
set_option maxRecDepth 100000 in
theorem cy_RL_29 : CY RL 29 11 yX11_flow cX11_flow 3 (some .int) 1 := ⟨by decide, ⟨_, _, _, rfl, rfl⟩, (aw_t5 107 rfl rfl), yi_X11_flow, yv_X11_flow, in_RX11, yk_X11_flow, yh_X11_flow⟩
set_option maxRecDepth 100000 in
theorem cy_RL_33 : CY RL 33 11 yX11_down cX11_down 2 none 1 := ⟨by decide, ⟨_, _, _, rfl, rfl⟩, (aw_t5 115 rfl rfl), yi_X11_down, yv_X11_down, in_RX11, yk_X11_down, yh_X11_down⟩
set_option maxRecDepth 100000 in
theorem cy_RL_36 : CY RL 36 11 yX11_up cX11_up 2 none 1 := ⟨by decide, ⟨_, _, _, rfl, rfl⟩, (aw_t5 129 rfl rfl), yi_X11_up, yv_X11_up, in_RX11, yk_X11_up, yh_X11_up⟩
set_option maxRecDepth 100000 in
theorem cy_RL_39 : CY RL 39 11 yX11_suspect cX11_suspect 2 none 1 := ⟨by decide, ⟨_, _, _, rfl, rfl⟩, (aw_t5 137 rfl rfl), yi_X11_suspect, yv_X11_suspect, in_RX11, yk_X11_suspect, yh_X11_suspect⟩
set_option maxRecDepth 100000 in
theorem cy_RL_42 : CY RL 42 11 yX11_nudge cX11_nudge 3 (some .int) 1 := ⟨by decide, ⟨_, _, _, rfl, rfl⟩, (aw_t5 149 rfl rfl), yi_X11_nudge, yv_X11_nudge, in_RX11, yk_X11_nudge, yh_X11_nudge⟩
set_option maxRecDepth 100000 in
theorem cy_RL_45 : CY RL 45 11 yX11_sync cX11_sync 3 none 1 := ⟨by decide, ⟨_, _, _, rfl, rfl⟩, (aw_t5 160 rfl rfl), yi_X11_sync, yv_X11_sync, in_RX11, yk_X11_sync, yh_X11_sync⟩
set_option maxRecDepth 100000 in
theorem cy_RL_48 : CY RL 48 11 yX11_tick cX11_tick 4 (some .int) 1 := ⟨by decide, ⟨_, _, _, rfl, rfl⟩, (aw_t5 172 rfl rfl), yi_X11_tick, yv_X11_tick, in_RX11, yk_X11_tick, yh_X11_tick⟩
set_option maxRecDepth 100000 in
theorem cy_RL_51 : CY RL 51 11 yX11_calm cX11_calm 6 (some .int) 1 := ⟨by decide, ⟨_, _, _, rfl, rfl⟩, (aw_t5 190 rfl rfl), yi_X11_calm, yv_X11_calm, in_RX11, yk_X11_calm, yh_X11_calm⟩
set_option maxRecDepth 100000 in
theorem cy_RL_54 : CY RL 54 11 yX11_image cX11_image 3 (some .int) 1 := ⟨by decide, ⟨_, _, _, rfl, rfl⟩, (aw_t5 198 rfl rfl), yi_X11_image, yv_X11_image, in_RX11, yk_X11_image, yh_X11_image⟩
set_option maxRecDepth 100000 in
theorem cy_RL_57 : CY RL 57 11 yX11_untake cX11_untake 1 (some .int) 0 := ⟨by decide, ⟨_, _, _, rfl, rfl⟩, (aw_t5 228 rfl rfl), yi_X11_untake, yv_X11_untake, in_RX11, yk_X11_untake, yh_X11_untake⟩
set_option maxRecDepth 100000 in
theorem cs_RL_61 : CS RL 61 yL_cell cL_cell 2 (some .int) 2 := ⟨(aw_t3 211 rfl rfl), ys_L_cell, in_RL, yk_L_cell, yh_L_cell⟩
set_option maxRecDepth 100000 in
theorem ci_RL_67 : CI RL 67 yX11_init cX11_init 4 2 := ⟨(aw_t1 24 rfl rfl), yi_X11_init, in_RX11, yk_X11_init, rfl, yh_X11_init⟩
set_option maxRecDepth 100000 in
theorem ci_RL_72 : CI RL 72 yX12_init cX12_init 4 2 := ⟨(aw_t6 50 rfl rfl), yi_X12_init, in_RX12, yk_X12_init, rfl, yh_X12_init⟩
set_option maxRecDepth 100000 in
theorem cy_RL_76 : CY RL 76 12 yX12_request cX12_request 5 (some .int) 4 := ⟨by decide, ⟨_, _, _, rfl, rfl⟩, (aw_t7 120 rfl rfl), yi_X12_request, yv_X12_request, in_RX12, yk_X12_request, yh_X12_request⟩
set_option maxRecDepth 100000 in
theorem cy_RL_77 : CY RL 77 12 yX12_thrown cX12_thrown 1 (some .int) 0 := ⟨by decide, ⟨_, _, _, rfl, rfl⟩, (aw_t7 116 rfl rfl), yi_X12_thrown, yv_X12_thrown, in_RX12, yk_X12_thrown, yh_X12_thrown⟩
set_option maxRecDepth 100000 in
theorem cy_RL_83 : CY RL 83 12 yX12_again cX12_again 2 none 1 := ⟨by decide, ⟨_, _, _, rfl, rfl⟩, (aw_t7 150 rfl rfl), yi_X12_again, yv_X12_again, in_RX12, yk_X12_again, yh_X12_again⟩
set_option maxRecDepth 100000 in
theorem cy_RL_86 : CY RL 86 12 yX12_deliver cX12_deliver 3 none 1 := ⟨by decide, ⟨_, _, _, rfl, rfl⟩, (aw_t7 154 rfl rfl), yi_X12_deliver, yv_X12_deliver, in_RX12, yk_X12_deliver, yh_X12_deliver⟩
set_option maxRecDepth 100000 in
theorem cy_RL_89 : CY RL 89 12 yX12_lose cX12_lose 4 none 1 := ⟨by decide, ⟨_, _, _, rfl, rfl⟩, (aw_t8 99 rfl rfl), yi_X12_lose, yv_X12_lose, in_RX12, yk_X12_lose, yh_X12_lose⟩
set_option maxRecDepth 100000 in
theorem cy_RL_93 : CY RL 93 12 yX12_flow cX12_flow 3 (some .int) 1 := ⟨by decide, ⟨_, _, _, rfl, rfl⟩, (aw_t8 103 rfl rfl), yi_X12_flow, yv_X12_flow, in_RX12, yk_X12_flow, yh_X12_flow⟩
set_option maxRecDepth 100000 in
theorem cy_RL_96 : CY RL 96 12 yX12_down cX12_down 2 none 1 := ⟨by decide, ⟨_, _, _, rfl, rfl⟩, (aw_t8 107 rfl rfl), yi_X12_down, yv_X12_down, in_RX12, yk_X12_down, yh_X12_down⟩
set_option maxRecDepth 100000 in
theorem cy_RL_99 : CY RL 99 12 yX12_up cX12_up 2 none 1 := ⟨by decide, ⟨_, _, _, rfl, rfl⟩, (aw_t8 119 rfl rfl), yi_X12_up, yv_X12_up, in_RX12, yk_X12_up, yh_X12_up⟩
set_option maxRecDepth 100000 in
theorem cy_RL_102 : CY RL 102 12 yX12_suspect cX12_suspect 2 none 1 := ⟨by decide, ⟨_, _, _, rfl, rfl⟩, (aw_t8 123 rfl rfl), yi_X12_suspect, yv_X12_suspect, in_RX12, yk_X12_suspect, yh_X12_suspect⟩
set_option maxRecDepth 100000 in
theorem cy_RL_105 : CY RL 105 12 yX12_nudge cX12_nudge 3 (some .int) 1 := ⟨by decide, ⟨_, _, _, rfl, rfl⟩, (aw_t8 127 rfl rfl), yi_X12_nudge, yv_X12_nudge, in_RX12, yk_X12_nudge, yh_X12_nudge⟩
set_option maxRecDepth 100000 in
theorem cy_RL_108 : CY RL 108 12 yX12_sync cX12_sync 2 none 1 := ⟨by decide, ⟨_, _, _, rfl, rfl⟩, (aw_t8 135 rfl rfl), yi_X12_sync, yv_X12_sync, in_RX12, yk_X12_sync, yh_X12_sync⟩
set_option maxRecDepth 100000 in
theorem cy_RL_111 : CY RL 111 12 yX12_tick cX12_tick 4 (some .int) 1 := ⟨by decide, ⟨_, _, _, rfl, rfl⟩, (aw_t8 143 rfl rfl), yi_X12_tick, yv_X12_tick, in_RX12, yk_X12_tick, yh_X12_tick⟩
set_option maxRecDepth 100000 in
theorem cy_RL_114 : CY RL 114 12 yX12_calm cX12_calm 6 (some .int) 1 := ⟨by decide, ⟨_, _, _, rfl, rfl⟩, (aw_t8 159 rfl rfl), yi_X12_calm, yv_X12_calm, in_RX12, yk_X12_calm, yh_X12_calm⟩
set_option maxRecDepth 100000 in
theorem cy_RL_115 : CY RL 115 11 yX11_fail cX11_fail 2 (some .boolean) 0 := ⟨by decide, ⟨_, _, _, rfl, rfl⟩, (aw_t3 7 rfl rfl), yi_X11_fail, yv_X11_fail, in_RX11, yk_X11_fail, yh_X11_fail⟩
set_option maxRecDepth 100000 in
theorem cy_RL_119 : CY RL 119 12 yX12_fail cX12_fail 2 (some .boolean) 0 := ⟨by decide, ⟨_, _, _, rfl, rfl⟩, (aw_t8 163 rfl rfl), yi_X12_fail, yv_X12_fail, in_RX12, yk_X12_fail, yh_X12_fail⟩
set_option maxRecDepth 100000 in
theorem cy_RL_120 : CY RL 120 11 yX11_install cX11_install 1 (some .int) 0 := ⟨by decide, ⟨_, _, _, rfl, rfl⟩, (aw_t3 11 rfl rfl), yi_X11_install, yv_X11_install, in_RX11, yk_X11_install, yh_X11_install⟩
set_option maxRecDepth 100000 in
theorem cy_RL_123 : CY RL 123 12 yX12_install cX12_install 1 (some .int) 0 := ⟨by decide, ⟨_, _, _, rfl, rfl⟩, (aw_t8 167 rfl rfl), yi_X12_install, yv_X12_install, in_RX12, yk_X12_install, yh_X12_install⟩
set_option maxRecDepth 100000 in
theorem cy_RL_124 : CY RL 124 11 yX11_replica cX11_replica 4 (some .int) 2 := ⟨by decide, ⟨_, _, _, rfl, rfl⟩, (aw_t3 19 rfl rfl), yi_X11_replica, yv_X11_replica, in_RX11, yk_X11_replica, yh_X11_replica⟩
set_option maxRecDepth 100000 in
theorem cy_RL_128 : CY RL 128 12 yX12_replica cX12_replica 3 (some .int) 2 := ⟨by decide, ⟨_, _, _, rfl, rfl⟩, (aw_t8 171 rfl rfl), yi_X12_replica, yv_X12_replica, in_RX12, yk_X12_replica, yh_X12_replica⟩
set_option maxRecDepth 100000 in
theorem cy_RL_129 : CY RL 129 11 yX11_entry cX11_entry 6 (some .int) 3 := ⟨by decide, ⟨_, _, _, rfl, rfl⟩, (aw_t3 33 rfl rfl), yi_X11_entry, yv_X11_entry, in_RX11, yk_X11_entry, yh_X11_entry⟩
set_option maxRecDepth 100000 in
theorem cy_RL_133 : CY RL 133 12 yX12_entry cX12_entry 7 (some .int) 3 := ⟨by decide, ⟨_, _, _, rfl, rfl⟩, (aw_t8 175 rfl rfl), yi_X12_entry, yv_X12_entry, in_RX12, yk_X12_entry, yh_X12_entry⟩
set_option maxRecDepth 100000 in
theorem cy_RL_134 : CY RL 134 11 yX11_word cX11_word 3 (some .int) 2 := ⟨by decide, ⟨_, _, _, rfl, rfl⟩, (aw_t3 46 rfl rfl), yi_X11_word, yv_X11_word, in_RX11, yk_X11_word, yh_X11_word⟩
set_option maxRecDepth 100000 in
theorem cy_RL_137 : CY RL 137 12 yX12_word cX12_word 3 (some .int) 2 := ⟨by decide, ⟨_, _, _, rfl, rfl⟩, (aw_t8 179 rfl rfl), yi_X12_word, yv_X12_word, in_RX12, yk_X12_word, yh_X12_word⟩
set_option maxRecDepth 100000 in
theorem cy_RL_138 : CY RL 138 11 yX11_client cX11_client 4 (some .int) 2 := ⟨by decide, ⟨_, _, _, rfl, rfl⟩, (aw_t3 71 rfl rfl), yi_X11_client, yv_X11_client, in_RX11, yk_X11_client, yh_X11_client⟩
set_option maxRecDepth 100000 in
theorem cy_RL_141 : CY RL 141 12 yX12_client cX12_client 4 (some .int) 2 := ⟨by decide, ⟨_, _, _, rfl, rfl⟩, (aw_t8 183 rfl rfl), yi_X12_client, yv_X12_client, in_RX12, yk_X12_client, yh_X12_client⟩
set_option maxRecDepth 100000 in
theorem cy_RL_142 : CY RL 142 11 yX11_answer cX11_answer 2 (some .int) 1 := ⟨by decide, ⟨_, _, _, rfl, rfl⟩, (aw_t3 79 rfl rfl), yi_X11_answer, yv_X11_answer, in_RX11, yk_X11_answer, yh_X11_answer⟩
set_option maxRecDepth 100000 in
theorem cy_RL_145 : CY RL 145 12 yX12_answer cX12_answer 2 (some .int) 1 := ⟨by decide, ⟨_, _, _, rfl, rfl⟩, (aw_t8 187 rfl rfl), yi_X12_answer, yv_X12_answer, in_RX12, yk_X12_answer, yh_X12_answer⟩
set_option maxRecDepth 100000 in
theorem cy_RL_146 : CY RL 146 11 yX11_about cX11_about 2 (some .int) 1 := ⟨by decide, ⟨_, _, _, rfl, rfl⟩, (aw_t3 83 rfl rfl), yi_X11_about, yv_X11_about, in_RX11, yk_X11_about, yh_X11_about⟩
set_option maxRecDepth 100000 in
theorem cy_RL_149 : CY RL 149 12 yX12_about cX12_about 2 (some .int) 1 := ⟨by decide, ⟨_, _, _, rfl, rfl⟩, (aw_t8 191 rfl rfl), yi_X12_about, yv_X12_about, in_RX12, yk_X12_about, yh_X12_about⟩
set_option maxRecDepth 100000 in
theorem cy_RL_150 : CY RL 150 11 yX11_message cX11_message 4 (some .int) 2 := ⟨by decide, ⟨_, _, _, rfl, rfl⟩, (aw_t3 87 rfl rfl), yi_X11_message, yv_X11_message, in_RX11, yk_X11_message, yh_X11_message⟩
set_option maxRecDepth 100000 in
theorem cy_RL_153 : CY RL 153 12 yX12_message cX12_message 5 (some .int) 2 := ⟨by decide, ⟨_, _, _, rfl, rfl⟩, (aw_t8 195 rfl rfl), yi_X12_message, yv_X12_message, in_RX12, yk_X12_message, yh_X12_message⟩
set_option maxRecDepth 100000 in
theorem cy_RL_154 : CY RL 154 11 yX11_wire cX11_wire 2 (some .int) 1 := ⟨by decide, ⟨_, _, _, rfl, rfl⟩, (aw_t3 95 rfl rfl), yi_X11_wire, yv_X11_wire, in_RX11, yk_X11_wire, yh_X11_wire⟩
set_option maxRecDepth 100000 in
theorem cy_RL_157 : CY RL 157 12 yX12_wire cX12_wire 6 (some .int) 1 := ⟨by decide, ⟨_, _, _, rfl, rfl⟩, (aw_t8 199 rfl rfl), yi_X12_wire, yv_X12_wire, in_RX12, yk_X12_wire, yh_X12_wire⟩
set_option maxRecDepth 100000 in
theorem cy_RL_160 : CY RL 160 12 yX12_image cX12_image 4 (some .int) 1 := ⟨by decide, ⟨_, _, _, rfl, rfl⟩, (aw_t8 236 rfl rfl), yi_X12_image, yv_X12_image, in_RX12, yk_X12_image, yh_X12_image⟩
set_option maxRecDepth 100000 in
theorem cy_RL_161 : CY RL 161 11 yX11_output cX11_output 2 (some .int) 1 := ⟨by decide, ⟨_, _, _, rfl, rfl⟩, (aw_t3 148 rfl rfl), yi_X11_output, yv_X11_output, in_RX11, yk_X11_output, yh_X11_output⟩
set_option maxRecDepth 100000 in
theorem cy_RL_164 : CY RL 164 12 yX12_output cX12_output 2 (some .int) 1 := ⟨by decide, ⟨_, _, _, rfl, rfl⟩, (aw_t9 8 rfl rfl), yi_X12_output, yv_X12_output, in_RX12, yk_X12_output, yh_X12_output⟩
set_option maxRecDepth 100000 in
theorem cy_RL_167 : CY RL 167 11 yX11_put cX11_put 5 (some .boolean) 2 := ⟨by decide, ⟨_, _, _, rfl, rfl⟩, (aw_t3 156 rfl rfl), yi_X11_put, yv_X11_put, in_RX11, yk_X11_put, yh_X11_put⟩
set_option maxRecDepth 100000 in
theorem cy_RL_171 : CY RL 171 12 yX12_put cX12_put 5 (some .boolean) 2 := ⟨by decide, ⟨_, _, _, rfl, rfl⟩, (aw_t9 12 rfl rfl), yi_X12_put, yv_X12_put, in_RX12, yk_X12_put, yh_X12_put⟩
set_option maxRecDepth 100000 in
theorem cy_RL_172 : CY RL 172 11 yX11_take cX11_take 3 (some .int) 2 := ⟨by decide, ⟨_, _, _, rfl, rfl⟩, (aw_t3 161 rfl rfl), yi_X11_take, yv_X11_take, in_RX11, yk_X11_take, yh_X11_take⟩
set_option maxRecDepth 100000 in
theorem cy_RL_175 : CY RL 175 12 yX12_take cX12_take 4 (some .int) 2 := ⟨by decide, ⟨_, _, _, rfl, rfl⟩, (aw_t9 17 rfl rfl), yi_X12_take, yv_X12_take, in_RX12, yk_X12_take, yh_X12_take⟩
set_option maxRecDepth 100000 in
theorem cy_RL_179 : CY RL 179 12 yX12_untake cX12_untake 4 (some .int) 0 := ⟨by decide, ⟨_, _, _, rfl, rfl⟩, (aw_t9 21 rfl rfl), yi_X12_untake, yv_X12_untake, in_RX12, yk_X12_untake, yh_X12_untake⟩
set_option maxRecDepth 100000 in
theorem cy_RL_180 : CY RL 180 11 yX11_fault cX11_fault 2 (some .int) 1 := ⟨by decide, ⟨_, _, _, rfl, rfl⟩, (aw_t3 174 rfl rfl), yi_X11_fault, yv_X11_fault, in_RX11, yk_X11_fault, yh_X11_fault⟩
set_option maxRecDepth 100000 in
theorem cy_RL_183 : CY RL 183 12 yX12_fault cX12_fault 2 (some .int) 1 := ⟨by decide, ⟨_, _, _, rfl, rfl⟩, (aw_t9 62 rfl rfl), yi_X12_fault, yv_X12_fault, in_RX12, yk_X12_fault, yh_X12_fault⟩
set_option maxRecDepth 100000 in
theorem cy_RL_184 : CY RL 184 11 yX11_told cX11_told 2 (some .int) 1 := ⟨by decide, ⟨_, _, _, rfl, rfl⟩, (aw_t3 178 rfl rfl), yi_X11_told, yv_X11_told, in_RX11, yk_X11_told, yh_X11_told⟩
set_option maxRecDepth 100000 in
theorem cy_RL_187 : CY RL 187 12 yX12_told cX12_told 2 (some .int) 1 := ⟨by decide, ⟨_, _, _, rfl, rfl⟩, (aw_t9 66 rfl rfl), yi_X12_told, yv_X12_told, in_RX12, yk_X12_told, yh_X12_told⟩
set_option maxRecDepth 100000 in
theorem cy_RL_188 : CY RL 188 11 yX11_tolds cX11_tolds 1 (some .int) 0 := ⟨by decide, ⟨_, _, _, rfl, rfl⟩, (aw_t3 186 rfl rfl), yi_X11_tolds, yv_X11_tolds, in_RX11, yk_X11_tolds, yh_X11_tolds⟩
set_option maxRecDepth 100000 in
theorem cy_RL_191 : CY RL 191 12 yX12_tolds cX12_tolds 1 (some .int) 0 := ⟨by decide, ⟨_, _, _, rfl, rfl⟩, (aw_t9 70 rfl rfl), yi_X12_tolds, yv_X12_tolds, in_RX12, yk_X12_tolds, yh_X12_tolds⟩
set_option maxRecDepth 100000 in
theorem cy_RL_192 : CY RL 192 11 yX11_broken cX11_broken 6 (some .int) 0 := ⟨by decide, ⟨_, _, _, rfl, rfl⟩, (aw_t3 190 rfl rfl), yi_X11_broken, yv_X11_broken, in_RX11, yk_X11_broken, yh_X11_broken⟩
set_option maxRecDepth 100000 in
theorem cy_RL_195 : CY RL 195 12 yX12_broken cX12_broken 5 (some .int) 0 := ⟨by decide, ⟨_, _, _, rfl, rfl⟩, (aw_t9 74 rfl rfl), yi_X12_broken, yv_X12_broken, in_RX12, yk_X12_broken, yh_X12_broken⟩
set_option maxRecDepth 100000 in
theorem oi_RX12_1 : Cond.methodLink RX12 1 objectInit ∈ AW := (aw_t6 53 rfl rfl)
set_option maxRecDepth 100000 in
theorem cs_RX12_254 : CS RX12 254 yX12_modulo cX12_modulo 3 (some .int) 2 := ⟨(aw_t6 55 rfl rfl), ys_X12_modulo, in_RX12, yk_X12_modulo, yh_X12_modulo⟩
set_option maxRecDepth 100000 in
theorem cs_RX12_270 : CS RX12 270 yX12_in cX12_in 3 (some .boolean) 3 := ⟨(aw_t7 127 rfl rfl), ys_X12_in, in_RX12, yk_X12_in, yh_X12_in⟩
set_option maxRecDepth 100000 in
theorem cy_RX12_277 : CY RX12 277 12 yX12_add cX12_add 2 none 1 := ⟨by decide, ⟨_, _, _, rfl, rfl⟩, (aw_t7 142 rfl rfl), yi_X12_add, yv_X12_add, in_RX12, yk_X12_add, yh_X12_add⟩
set_option maxRecDepth 100000 in
theorem cy_RX12_290 : CY RX12 290 12 yX12_begin cX12_begin 4 none 3 := ⟨by decide, ⟨_, _, _, rfl, rfl⟩, (aw_t7 138 rfl rfl), yi_X12_begin, yv_X12_begin, in_RX12, yk_X12_begin, yh_X12_begin⟩
set_option maxRecDepth 100000 in
theorem cy_RX12_294 : CY RX12 294 12 yX12_addView cX12_addView 2 none 1 := ⟨by decide, ⟨_, _, _, rfl, rfl⟩, (aw_t7 209 rfl rfl), yi_X12_addView, yv_X12_addView, in_RX12, yk_X12_addView, yh_X12_addView⟩
set_option maxRecDepth 100000 in
theorem cy_RX12_297 : CY RX12 297 12 yX12_post cX12_post 3 none 0 := ⟨by decide, ⟨_, _, _, rfl, rfl⟩, (aw_t7 146 rfl rfl), yi_X12_post, yv_X12_post, in_RX12, yk_X12_post, yh_X12_post⟩
set_option maxRecDepth 100000 in
theorem cy_RX12_300 : CY RX12 300 12 yX12_tell cX12_tell 5 none 4 := ⟨by decide, ⟨_, _, _, rfl, rfl⟩, (aw_t7 205 rfl rfl), yi_X12_tell, yv_X12_tell, in_RX12, yk_X12_tell, yh_X12_tell⟩
set_option maxRecDepth 100000 in
theorem cy_RX12_304 : CY RX12 304 12 yX12_addLog cX12_addLog 5 none 2 := ⟨by decide, ⟨_, _, _, rfl, rfl⟩, (aw_t7 225 rfl rfl), yi_X12_addLog, yv_X12_addLog, in_RX12, yk_X12_addLog, yh_X12_addLog⟩
set_option maxRecDepth 100000 in
theorem cy_RX12_308 : CY RX12 308 12 yX12_remove cX12_remove 4 (some .int) 1 := ⟨by decide, ⟨_, _, _, rfl, rfl⟩, (aw_t7 166 rfl rfl), yi_X12_remove, yv_X12_remove, in_RX12, yk_X12_remove, yh_X12_remove⟩
set_option maxRecDepth 100000 in
theorem cy_RX12_312 : CY RX12 312 12 yX12_clientGets cX12_clientGets 4 none 1 := ⟨by decide, ⟨_, _, _, rfl, rfl⟩, (aw_t7 170 rfl rfl), yi_X12_clientGets, yv_X12_clientGets, in_RX12, yk_X12_clientGets, yh_X12_clientGets⟩
set_option maxRecDepth 100000 in
theorem cy_RX12_315 : CY RX12 315 12 yX12_replicaGets cX12_replicaGets 4 none 1 := ⟨by decide, ⟨_, _, _, rfl, rfl⟩, (aw_t7 185 rfl rfl), yi_X12_replicaGets, yv_X12_replicaGets, in_RX12, yk_X12_replicaGets, yh_X12_replicaGets⟩
set_option maxRecDepth 100000 in
theorem cy_RX12_324 : CY RX12 324 12 yX12_leader cX12_leader 2 (some .int) 1 := ⟨by decide, ⟨_, _, _, rfl, rfl⟩, (aw_t7 221 rfl rfl), yi_X12_leader, yv_X12_leader, in_RX12, yk_X12_leader, yh_X12_leader⟩
set_option maxRecDepth 100000 in
theorem cy_RX12_327 : CY RX12 327 12 yX12_leads cX12_leads 2 (some .boolean) 1 := ⟨by decide, ⟨_, _, _, rfl, rfl⟩, (aw_t7 217 rfl rfl), yi_X12_leads, yv_X12_leads, in_RX12, yk_X12_leads, yh_X12_leads⟩
set_option maxRecDepth 100000 in
theorem cy_RX12_331 : CY RX12 331 12 yX12_restart cX12_restart 2 none 0 := ⟨by decide, ⟨_, _, _, rfl, rfl⟩, (aw_t8 13 rfl rfl), yi_X12_restart, yv_X12_restart, in_RX12, yk_X12_restart, yh_X12_restart⟩
set_option maxRecDepth 100000 in
theorem cy_RX12_334 : CY RX12 334 12 yX12_doEntry cX12_doEntry 4 (some .boolean) 1 := ⟨by decide, ⟨_, _, _, rfl, rfl⟩, (aw_t8 17 rfl rfl), yi_X12_doEntry, yv_X12_doEntry, in_RX12, yk_X12_doEntry, yh_X12_doEntry⟩
set_option maxRecDepth 100000 in
theorem cy_RX12_337 : CY RX12 337 12 yX12_heldAt cX12_heldAt 4 (some .int) 2 := ⟨by decide, ⟨_, _, _, rfl, rfl⟩, (aw_t7 229 rfl rfl), yi_X12_heldAt, yv_X12_heldAt, in_RX12, yk_X12_heldAt, yh_X12_heldAt⟩
set_option maxRecDepth 100000 in
theorem cy_RX12_340 : CY RX12 340 12 yX12_drop cX12_drop 4 none 2 := ⟨by decide, ⟨_, _, _, rfl, rfl⟩, (aw_t8 5 rfl rfl), yi_X12_drop, yv_X12_drop, in_RX12, yk_X12_drop, yh_X12_drop⟩
set_option maxRecDepth 100000 in
theorem cy_RX12_343 : CY RX12 343 12 yX12_execute cX12_execute 5 none 1 := ⟨by decide, ⟨_, _, _, rfl, rfl⟩, (aw_t8 9 rfl rfl), yi_X12_execute, yv_X12_execute, in_RX12, yk_X12_execute, yh_X12_execute⟩
set_option maxRecDepth 100000 in
theorem cy_RX12_346 : CY RX12 346 12 yX12_takeOne cX12_takeOne 6 none 2 := ⟨by decide, ⟨_, _, _, rfl, rfl⟩, (aw_t8 1 rfl rfl), yi_X12_takeOne, yv_X12_takeOne, in_RX12, yk_X12_takeOne, yh_X12_takeOne⟩
set_option maxRecDepth 100000 in
theorem cy_RX12_349 : CY RX12 349 12 yX12_addNothing cX12_addNothing 2 none 1 := ⟨by decide, ⟨_, _, _, rfl, rfl⟩, (aw_t8 21 rfl rfl), yi_X12_addNothing, yv_X12_addNothing, in_RX12, yk_X12_addNothing, yh_X12_addNothing⟩
set_option maxRecDepth 100000 in
theorem cy_RX12_352 : CY RX12 352 12 yX12_tellOthers cX12_tellOthers 5 none 3 := ⟨by decide, ⟨_, _, _, rfl, rfl⟩, (aw_t7 201 rfl rfl), yi_X12_tellOthers, yv_X12_tellOthers, in_RX12, yk_X12_tellOthers, yh_X12_tellOthers⟩
set_option maxRecDepth 100000 in
theorem cy_RX12_355 : CY RX12 355 12 yX12_forgetCounts cX12_forgetCounts 2 none 1 := ⟨by decide, ⟨_, _, _, rfl, rfl⟩, (aw_t7 197 rfl rfl), yi_X12_forgetCounts, yv_X12_forgetCounts, in_RX12, yk_X12_forgetCounts, yh_X12_forgetCounts⟩
set_option maxRecDepth 100000 in
theorem cy_RX12_358 : CY RX12 358 12 yX12_sendTurned cX12_sendTurned 2 none 1 := ⟨by decide, ⟨_, _, _, rfl, rfl⟩, (aw_t7 213 rfl rfl), yi_X12_sendTurned, yv_X12_sendTurned, in_RX12, yk_X12_sendTurned, yh_X12_sendTurned⟩
set_option maxRecDepth 100000 in
theorem cs_RX12_361 : CS RX12 361 yX12_isBehind cX12_isBehind 4 (some .boolean) 4 := ⟨(aw_t8 29 rfl rfl), ys_X12_isBehind, in_RX12, yk_X12_isBehind, yh_X12_isBehind⟩
set_option maxRecDepth 100000 in
theorem cy_RX12_365 : CY RX12 365 12 yX12_turnsTo cX12_turnsTo 4 none 3 := ⟨by decide, ⟨_, _, _, rfl, rfl⟩, (aw_t7 193 rfl rfl), yi_X12_turnsTo, yv_X12_turnsTo, in_RX12, yk_X12_turnsTo, yh_X12_turnsTo⟩
set_option maxRecDepth 100000 in
theorem cs_RX12_374 : CS RX12 374 yX12_inTurn cX12_inTurn 2 (some .int) 2 := ⟨(aw_t8 52 rfl rfl), ys_X12_inTurn, in_RX12, yk_X12_inTurn, yh_X12_inTurn⟩
set_option maxRecDepth 100000 in
theorem cy_RX12_377 : CY RX12 377 12 yX12_isLookedAt cX12_isLookedAt 5 (some .boolean) 2 := ⟨by decide, ⟨_, _, _, rfl, rfl⟩, (aw_t8 55 rfl rfl), yi_X12_isLookedAt, yv_X12_isLookedAt, in_RX12, yk_X12_isLookedAt, yh_X12_isLookedAt⟩
set_option maxRecDepth 100000 in
theorem cs_RX12_381 : CS RX12 381 yX12_bits cX12_bits 3 (some .int) 1 := ⟨(aw_t7 178 rfl rfl), ys_X12_bits, in_RX12, yk_X12_bits, yh_X12_bits⟩
set_option maxRecDepth 100000 in
theorem cy_RX12_384 : CY RX12 384 12 yX12_keepOwn cX12_keepOwn 6 none 1 := ⟨by decide, ⟨_, _, _, rfl, rfl⟩, (aw_t8 44 rfl rfl), yi_X12_keepOwn, yv_X12_keepOwn, in_RX12, yk_X12_keepOwn, yh_X12_keepOwn⟩
set_option maxRecDepth 100000 in
theorem cy_RX12_387 : CY RX12 387 12 yX12_findBest cX12_findBest 5 none 1 := ⟨by decide, ⟨_, _, _, rfl, rfl⟩, (aw_t8 48 rfl rfl), yi_X12_findBest, yv_X12_findBest, in_RX12, yk_X12_findBest, yh_X12_findBest⟩
set_option maxRecDepth 100000 in
theorem cy_RX12_390 : CY RX12 390 12 yX12_mergeSlot cX12_mergeSlot 9 none 2 := ⟨by decide, ⟨_, _, _, rfl, rfl⟩, (aw_t8 59 rfl rfl), yi_X12_mergeSlot, yv_X12_mergeSlot, in_RX12, yk_X12_mergeSlot, yh_X12_mergeSlot⟩
set_option maxRecDepth 100000 in
theorem cy_RX12_393 : CY RX12 393 12 yX12_becomeNormal cX12_becomeNormal 2 none 1 := ⟨by decide, ⟨_, _, _, rfl, rfl⟩, (aw_t8 63 rfl rfl), yi_X12_becomeNormal, yv_X12_becomeNormal, in_RX12, yk_X12_becomeNormal, yh_X12_becomeNormal⟩
set_option maxRecDepth 100000 in
theorem cy_RX12_396 : CY RX12 396 12 yX12_sendStart cX12_sendStart 3 none 2 := ⟨by decide, ⟨_, _, _, rfl, rfl⟩, (aw_t8 67 rfl rfl), yi_X12_sendStart, yv_X12_sendStart, in_RX12, yk_X12_sendStart, yh_X12_sendStart⟩
set_option maxRecDepth 100000 in
theorem cy_RX12_399 : CY RX12 399 12 yX12_getsStamped cX12_getsStamped 4 none 1 := ⟨by decide, ⟨_, _, _, rfl, rfl⟩, (aw_t7 189 rfl rfl), yi_X12_getsStamped, yv_X12_getsStamped, in_RX12, yk_X12_getsStamped, yh_X12_getsStamped⟩
set_option maxRecDepth 100000 in
theorem cy_RX12_402 : CY RX12 402 12 yX12_joins cX12_joins 5 none 3 := ⟨by decide, ⟨_, _, _, rfl, rfl⟩, (aw_t8 25 rfl rfl), yi_X12_joins, yv_X12_joins, in_RX12, yk_X12_joins, yh_X12_joins⟩
set_option maxRecDepth 100000 in
theorem cy_RX12_405 : CY RX12 405 12 yX12_getsTurned cX12_getsTurned 3 none 1 := ⟨by decide, ⟨_, _, _, rfl, rfl⟩, (aw_t8 32 rfl rfl), yi_X12_getsTurned, yv_X12_getsTurned, in_RX12, yk_X12_getsTurned, yh_X12_getsTurned⟩
set_option maxRecDepth 100000 in
theorem cy_RX12_408 : CY RX12 408 12 yX12_getsStart cX12_getsStart 3 none 2 := ⟨by decide, ⟨_, _, _, rfl, rfl⟩, (aw_t8 71 rfl rfl), yi_X12_getsStart, yv_X12_getsStart, in_RX12, yk_X12_getsStart, yh_X12_getsStart⟩
set_option maxRecDepth 100000 in
theorem cy_RX12_412 : CY RX12 412 12 yX12_getsInView cX12_getsInView 4 none 2 := ⟨by decide, ⟨_, _, _, rfl, rfl⟩, (aw_t8 79 rfl rfl), yi_X12_getsInView, yv_X12_getsInView, in_RX12, yk_X12_getsInView, yh_X12_getsInView⟩
set_option maxRecDepth 100000 in
theorem cy_RX12_415 : CY RX12 415 12 yX12_hold cX12_hold 5 none 3 := ⟨by decide, ⟨_, _, _, rfl, rfl⟩, (aw_t7 233 rfl rfl), yi_X12_hold, yv_X12_hold, in_RX12, yk_X12_hold, yh_X12_hold⟩
set_option maxRecDepth 100000 in
theorem cy_RX12_418 : CY RX12 418 12 yX12_takes cX12_takes 3 none 1 := ⟨by decide, ⟨_, _, _, rfl, rfl⟩, (aw_t7 237 rfl rfl), yi_X12_takes, yv_X12_takes, in_RX12, yk_X12_takes, yh_X12_takes⟩
set_option maxRecDepth 100000 in
theorem cy_RX12_421 : CY RX12 421 12 yX12_keepTurned cX12_keepTurned 7 none 2 := ⟨by decide, ⟨_, _, _, rfl, rfl⟩, (aw_t8 36 rfl rfl), yi_X12_keepTurned, yv_X12_keepTurned, in_RX12, yk_X12_keepTurned, yh_X12_keepTurned⟩
set_option maxRecDepth 100000 in
theorem cy_RX12_424 : CY RX12 424 12 yX12_merges cX12_merges 7 none 1 := ⟨by decide, ⟨_, _, _, rfl, rfl⟩, (aw_t8 40 rfl rfl), yi_X12_merges, yv_X12_merges, in_RX12, yk_X12_merges, yh_X12_merges⟩
set_option maxRecDepth 100000 in
theorem cy_RX12_427 : CY RX12 427 12 yX12_readEntries cX12_readEntries 7 none 3 := ⟨by decide, ⟨_, _, _, rfl, rfl⟩, (aw_t8 75 rfl rfl), yi_X12_readEntries, yv_X12_readEntries, in_RX12, yk_X12_readEntries, yh_X12_readEntries⟩
set_option maxRecDepth 100000 in
theorem cy_RX12_430 : CY RX12 430 12 yX12_lookUp cX12_lookUp 5 none 2 := ⟨by decide, ⟨_, _, _, rfl, rfl⟩, (aw_t8 83 rfl rfl), yi_X12_lookUp, yv_X12_lookUp, in_RX12, yk_X12_lookUp, yh_X12_lookUp⟩
set_option maxRecDepth 100000 in
theorem cy_RX12_433 : CY RX12 433 12 yX12_commitGap cX12_commitGap 4 none 2 := ⟨by decide, ⟨_, _, _, rfl, rfl⟩, (aw_t8 87 rfl rfl), yi_X12_commitGap, yv_X12_commitGap, in_RX12, yk_X12_commitGap, yh_X12_commitGap⟩
set_option maxRecDepth 100000 in
theorem cy_RX12_436 : CY RX12 436 12 yX12_replyGap cX12_replyGap 2 none 1 := ⟨by decide, ⟨_, _, _, rfl, rfl⟩, (aw_t8 91 rfl rfl), yi_X12_replyGap, yv_X12_replyGap, in_RX12, yk_X12_replyGap, yh_X12_replyGap⟩
set_option maxRecDepth 100000 in
theorem cy_RX12_439 : CY RX12 439 12 yX12_replySync cX12_replySync 3 none 2 := ⟨by decide, ⟨_, _, _, rfl, rfl⟩, (aw_t8 95 rfl rfl), yi_X12_replySync, yv_X12_replySync, in_RX12, yk_X12_replySync, yh_X12_replySync⟩
set_option maxRecDepth 100000 in
theorem cy_RX12_442 : CY RX12 442 12 yX12_placeOf cX12_placeOf 6 (some .int) 4 := ⟨by decide, ⟨_, _, _, rfl, rfl⟩, (aw_t7 174 rfl rfl), yi_X12_placeOf, yv_X12_placeOf, in_RX12, yk_X12_placeOf, yh_X12_placeOf⟩
set_option maxRecDepth 100000 in
theorem cy_RX12_446 : CY RX12 446 12 yX12_accept cX12_accept 4 none 2 := ⟨by decide, ⟨_, _, _, rfl, rfl⟩, (aw_t7 181 rfl rfl), yi_X12_accept, yv_X12_accept, in_RX12, yk_X12_accept, yh_X12_accept⟩
set_option maxRecDepth 100000 in
theorem cy_RX12_452 : CY RX12 452 12 yX12_asks cX12_asks 2 none 1 := ⟨by decide, ⟨_, _, _, rfl, rfl⟩, (aw_t8 131 rfl rfl), yi_X12_asks, yv_X12_asks, in_RX12, yk_X12_asks, yh_X12_asks⟩
set_option maxRecDepth 100000 in
theorem cy_RX12_455 : CY RX12 455 12 yX12_syncs cX12_syncs 3 none 1 := ⟨by decide, ⟨_, _, _, rfl, rfl⟩, (aw_t8 139 rfl rfl), yi_X12_syncs, yv_X12_syncs, in_RX12, yk_X12_syncs, yh_X12_syncs⟩
set_option maxRecDepth 100000 in
theorem cy_RX12_461 : CY RX12 461 12 yX12_establish cX12_establish 1 (some .int) 0 := ⟨by decide, ⟨_, _, _, rfl, rfl⟩, (aw_t8 151 rfl rfl), yi_X12_establish, yv_X12_establish, in_RX12, yk_X12_establish, yh_X12_establish⟩
set_option maxRecDepth 100000 in
theorem cy_RX12_465 : CY RX12 465 12 yX12_acts cX12_acts 4 none 1 := ⟨by decide, ⟨_, _, _, rfl, rfl⟩, (aw_t8 155 rfl rfl), yi_X12_acts, yv_X12_acts, in_RX12, yk_X12_acts, yh_X12_acts⟩
set_option maxRecDepth 100000 in
theorem cy_RX12_468 : CY RX12 468 12 yX12_stamp cX12_stamp 3 none 1 := ⟨by decide, ⟨_, _, _, rfl, rfl⟩, (aw_t7 134 rfl rfl), yi_X12_stamp, yv_X12_stamp, in_RX12, yk_X12_stamp, yh_X12_stamp⟩
set_option maxRecDepth 100000 in
theorem cs_RX12_471 : CS RX12 471 yX12_isClient cX12_isClient 1 (some .boolean) 1 := ⟨(aw_t7 124 rfl rfl), ys_X12_isClient, in_RX12, yk_X12_isClient, yh_X12_isClient⟩
set_option maxRecDepth 100000 in
theorem cy_RX12_474 : CY RX12 474 12 yX12_refuse cX12_refuse 2 (some .int) 1 := ⟨by decide, ⟨_, _, _, rfl, rfl⟩, (aw_t7 130 rfl rfl), yi_X12_refuse, yv_X12_refuse, in_RX12, yk_X12_refuse, yh_X12_refuse⟩
set_option maxRecDepth 100000 in
theorem cy_RX12_477 : CY RX12 477 12 yX12_find cX12_find 3 (some .int) 1 := ⟨by decide, ⟨_, _, _, rfl, rfl⟩, (aw_t7 158 rfl rfl), yi_X12_find, yv_X12_find, in_RX12, yk_X12_find, yh_X12_find⟩
set_option maxRecDepth 100000 in
theorem cy_RX12_480 : CY RX12 480 12 yX12_hand cX12_hand 4 none 1 := ⟨by decide, ⟨_, _, _, rfl, rfl⟩, (aw_t7 162 rfl rfl), yi_X12_hand, yv_X12_hand, in_RX12, yk_X12_hand, yh_X12_hand⟩
set_option maxRecDepth 100000 in
theorem cy_RX12_483 : CY RX12 483 12 yX12_isReplica cX12_isReplica 2 (some .boolean) 1 := ⟨by decide, ⟨_, _, _, rfl, rfl⟩, (aw_t8 111 rfl rfl), yi_X12_isReplica, yv_X12_isReplica, in_RX12, yk_X12_isReplica, yh_X12_isReplica⟩
set_option maxRecDepth 100000 in
theorem cy_RX12_486 : CY RX12 486 12 yX12_downs cX12_downs 3 (some .int) 0 := ⟨by decide, ⟨_, _, _, rfl, rfl⟩, (aw_t8 115 rfl rfl), yi_X12_downs, yv_X12_downs, in_RX12, yk_X12_downs, yh_X12_downs⟩
set_option maxRecDepth 100000 in
theorem cy_RX12_489 : CY RX12 489 12 yX12_goOn cX12_goOn 2 none 0 := ⟨by decide, ⟨_, _, _, rfl, rfl⟩, (aw_t8 147 rfl rfl), yi_X12_goOn, yv_X12_goOn, in_RX12, yk_X12_goOn, yh_X12_goOn⟩
set_option maxRecDepth 100000 in
theorem cy_RX12_495 : CY RX12 495 12 yX12_write cX12_write 2 none 1 := ⟨by decide, ⟨_, _, _, rfl, rfl⟩, (aw_t8 203 rfl rfl), yi_X12_write, yv_X12_write, in_RX12, yk_X12_write, yh_X12_write⟩
set_option maxRecDepth 100000 in
theorem cy_RX12_498 : CY RX12 498 12 yX12_writeNumber cX12_writeNumber 3 none 1 := ⟨by decide, ⟨_, _, _, rfl, rfl⟩, (aw_t8 210 rfl rfl), yi_X12_writeNumber, yv_X12_writeNumber, in_RX12, yk_X12_writeNumber, yh_X12_writeNumber⟩
set_option maxRecDepth 100000 in
theorem cy_RX12_501 : CY RX12 501 12 yX12_writeWord cX12_writeWord 3 none 1 := ⟨by decide, ⟨_, _, _, rfl, rfl⟩, (aw_t8 221 rfl rfl), yi_X12_writeWord, yv_X12_writeWord, in_RX12, yk_X12_writeWord, yh_X12_writeWord⟩
set_option maxRecDepth 100000 in
theorem cy_RX12_504 : CY RX12 504 12 yX12_writeRequest cX12_writeRequest 2 none 1 := ⟨by decide, ⟨_, _, _, rfl, rfl⟩, (aw_t8 217 rfl rfl), yi_X12_writeRequest, yv_X12_writeRequest, in_RX12, yk_X12_writeRequest, yh_X12_writeRequest⟩
set_option maxRecDepth 100000 in
theorem cs_RX12_508 : CS RX12 508 yX12_numbers cX12_numbers 1 (some .int) 1 := ⟨(aw_t8 207 rfl rfl), ys_X12_numbers, in_RX12, yk_X12_numbers, yh_X12_numbers⟩
set_option maxRecDepth 100000 in
theorem cs_RX12_511 : CS RX12 511 yX12_hasRequest cX12_hasRequest 1 (some .boolean) 1 := ⟨(aw_t8 214 rfl rfl), ys_X12_hasRequest, in_RX12, yk_X12_hasRequest, yh_X12_hasRequest⟩
set_option maxRecDepth 100000 in
theorem cs_RX12_514 : CS RX12 514 yX12_hasLog cX12_hasLog 1 (some .boolean) 1 := ⟨(aw_t8 225 rfl rfl), ys_X12_hasLog, in_RX12, yk_X12_hasLog, yh_X12_hasLog⟩
set_option maxRecDepth 100000 in
theorem cy_RX12_517 : CY RX12 517 12 yX12_writeLog cX12_writeLog 6 none 1 := ⟨by decide, ⟨_, _, _, rfl, rfl⟩, (aw_t8 228 rfl rfl), yi_X12_writeLog, yv_X12_writeLog, in_RX12, yk_X12_writeLog, yh_X12_writeLog⟩
set_option maxRecDepth 100000 in
theorem cs_RX12_520 : CS RX12 520 yX12_sumOf cX12_sumOf 7 (some .int) 3 := ⟨(aw_t8 232 rfl rfl), ys_X12_sumOf, in_RX12, yk_X12_sumOf, yh_X12_sumOf⟩
set_option maxRecDepth 100000 in
theorem cy_RX12_524 : CY RX12 524 12 yX12_endBlock cX12_endBlock 2 none 1 := ⟨by decide, ⟨_, _, _, rfl, rfl⟩, (aw_t9 0 rfl rfl), yi_X12_endBlock, yv_X12_endBlock, in_RX12, yk_X12_endBlock, yh_X12_endBlock⟩
set_option maxRecDepth 100000 in
theorem cy_RX12_527 : CY RX12 527 12 yX12_writeEntry cX12_writeEntry 4 none 2 := ⟨by decide, ⟨_, _, _, rfl, rfl⟩, (aw_t9 4 rfl rfl), yi_X12_writeEntry, yv_X12_writeEntry, in_RX12, yk_X12_writeEntry, yh_X12_writeEntry⟩
set_option maxRecDepth 100000 in
theorem cy_RX12_541 : CY RX12 541 12 yX12_wrongs cX12_wrongs 3 none 2 := ⟨by decide, ⟨_, _, _, rfl, rfl⟩, (aw_t9 33 rfl rfl), yi_X12_wrongs, yv_X12_wrongs, in_RX12, yk_X12_wrongs, yh_X12_wrongs⟩
set_option maxRecDepth 100000 in
theorem cy_RX12_547 : CY RX12 547 12 yX12_next cX12_next 1 (some .int) 0 := ⟨by decide, ⟨_, _, _, rfl, rfl⟩, (aw_t9 29 rfl rfl), yi_X12_next, yv_X12_next, in_RX12, yk_X12_next, yh_X12_next⟩
set_option maxRecDepth 100000 in
theorem cy_RX12_550 : CY RX12 550 12 yX12_keep cX12_keep 2 none 1 := ⟨by decide, ⟨_, _, _, rfl, rfl⟩, (aw_t9 37 rfl rfl), yi_X12_keep, yv_X12_keep, in_RX12, yk_X12_keep, yh_X12_keep⟩
set_option maxRecDepth 100000 in
theorem cy_RX12_555 : CY RX12 555 12 yX12_readByte cX12_readByte 4 (some .int) 1 := ⟨by decide, ⟨_, _, _, rfl, rfl⟩, (aw_t9 25 rfl rfl), yi_X12_readByte, yv_X12_readByte, in_RX12, yk_X12_readByte, yh_X12_readByte⟩
set_option maxRecDepth 100000 in
theorem cy_RX12_558 : CY RX12 558 12 yX12_readNumber cX12_readNumber 8 (some .int) 0 := ⟨by decide, ⟨_, _, _, rfl, rfl⟩, (aw_t9 45 rfl rfl), yi_X12_readNumber, yv_X12_readNumber, in_RX12, yk_X12_readNumber, yh_X12_readNumber⟩
set_option maxRecDepth 100000 in
theorem cy_RX12_561 : CY RX12 561 12 yX12_nextWord cX12_nextWord 3 (some .int) 0 := ⟨by decide, ⟨_, _, _, rfl, rfl⟩, (aw_t9 54 rfl rfl), yi_X12_nextWord, yv_X12_nextWord, in_RX12, yk_X12_nextWord, yh_X12_nextWord⟩
set_option maxRecDepth 100000 in
theorem cy_RX12_564 : CY RX12 564 12 yX12_readRequest cX12_readRequest 5 none 0 := ⟨by decide, ⟨_, _, _, rfl, rfl⟩, (aw_t9 50 rfl rfl), yi_X12_readRequest, yv_X12_readRequest, in_RX12, yk_X12_readRequest, yh_X12_readRequest⟩
set_option maxRecDepth 100000 in
theorem cy_RX12_567 : CY RX12 567 12 yX12_readEnd cX12_readEnd 5 none 1 := ⟨by decide, ⟨_, _, _, rfl, rfl⟩, (aw_t9 41 rfl rfl), yi_X12_readEnd, yv_X12_readEnd, in_RX12, yk_X12_readEnd, yh_X12_readEnd⟩
set_option maxRecDepth 100000 in
theorem cy_RX12_571 : CY RX12 571 12 yX12_readLog cX12_readLog 4 none 0 := ⟨by decide, ⟨_, _, _, rfl, rfl⟩, (aw_t9 58 rfl rfl), yi_X12_readLog, yv_X12_readLog, in_RX12, yk_X12_readLog, yh_X12_readLog⟩
set_option maxRecDepth 100000 in
theorem cy_RX12_574 : CY RX12 574 12 yX12_isKept cX12_isKept 3 (some .boolean) 2 := ⟨by decide, ⟨_, _, _, rfl, rfl⟩, (aw_t9 82 rfl rfl), yi_X12_isKept, yv_X12_isKept, in_RX12, yk_X12_isKept, yh_X12_isKept⟩
set_option maxRecDepth 100000 in
theorem cy_RX12_577 : CY RX12 577 12 yX12_speaksAgainst cX12_speaksAgainst 6 (some .boolean) 2 := ⟨by decide, ⟨_, _, _, rfl, rfl⟩, (aw_t9 78 rfl rfl), yi_X12_speaksAgainst, yv_X12_speaksAgainst, in_RX12, yk_X12_speaksAgainst, yh_X12_speaksAgainst⟩
set_option maxRecDepth 100000 in
theorem cn_RX11_30 : CIN RX11 30 yX10_init "OrderedWorks" cX10_init 1 0 := ⟨by decide +kernel, yi_X10_init, in_RX10, yk_X10_init, rfl, yh_X10_init⟩
set_option maxRecDepth 100000 in
theorem cn_RX11_66 : CIN RX11 66 yX6_init "OrderedWorks" cX6_init 1 0 := ⟨by decide +kernel, yi_X6_init, in_RX6, yk_X6_init, rfl, yh_X6_init⟩
set_option maxRecDepth 100000 in
theorem csn_RX0_29 : CSN RX0 29 yX11_leadOf "OrderedWorks" cX11_leadOf 2 (some .int) 1 := ⟨by decide +kernel, ys_X11_leadOf, in_RX11, yk_X11_leadOf, yh_X11_leadOf⟩
set_option maxRecDepth 100000 in
theorem csn_RX0_36 : CSN RX0 36 yX11_sessionOf "OrderedWorks" cX11_sessionOf 2 (some .int) 1 := ⟨by decide +kernel, ys_X11_sessionOf, in_RX11, yk_X11_sessionOf, yh_X11_sessionOf⟩
set_option maxRecDepth 100000 in
theorem cn_RX1_11 : CIN RX1 11 yX6_init "OrderedWorks" cX6_init 1 0 := ⟨by decide +kernel, yi_X6_init, in_RX6, yk_X6_init, rfl, yh_X6_init⟩
set_option maxRecDepth 100000 in
theorem cn_RX3_11 : CIN RX3 11 yX2_init "OrderedWorks" cX2_init 1 0 := ⟨by decide +kernel, yi_X2_init, in_RX2, yk_X2_init, rfl, yh_X2_init⟩
set_option maxRecDepth 100000 in
theorem csn_RX3_41 : CSN RX3 41 yX11_sessionOf "OrderedWorks" cX11_sessionOf 2 (some .int) 1 := ⟨by decide +kernel, ys_X11_sessionOf, in_RX11, yk_X11_sessionOf, yh_X11_sessionOf⟩
set_option maxRecDepth 100000 in
theorem cn_RX4_17 : CIN RX4 17 yX3_init "OrderedWorks" cX3_init 1 0 := ⟨by decide +kernel, yi_X3_init, in_RX3, yk_X3_init, rfl, yh_X3_init⟩
set_option maxRecDepth 100000 in
theorem csn_RX4_32 : CSN RX4 32 yX11_leadOf "OrderedWorks" cX11_leadOf 2 (some .int) 1 := ⟨by decide +kernel, ys_X11_leadOf, in_RX11, yk_X11_leadOf, yh_X11_leadOf⟩
set_option maxRecDepth 100000 in
theorem cn_RX5_37 : CIN RX5 37 yX2_init "OrderedWorks" cX2_init 1 0 := ⟨by decide +kernel, yi_X2_init, in_RX2, yk_X2_init, rfl, yh_X2_init⟩
set_option maxRecDepth 100000 in
theorem csn_RX8_9 : CSN RX8 9 yX11_viewOf "OrderedWorks" cX11_viewOf 2 (some .long) 2 := ⟨by decide +kernel, ys_X11_viewOf, in_RX11, yk_X11_viewOf, yh_X11_viewOf⟩
set_option maxRecDepth 100000 in
theorem cn_RX8_24 : CIN RX8 24 yX2_init "OrderedWorks" cX2_init 1 0 := ⟨by decide +kernel, yi_X2_init, in_RX2, yk_X2_init, rfl, yh_X2_init⟩
set_option maxRecDepth 100000 in
theorem csn_RX8_133 : CSN RX8 133 yX11_sessionOf "OrderedWorks" cX11_sessionOf 2 (some .int) 1 := ⟨by decide +kernel, ys_X11_sessionOf, in_RX11, yk_X11_sessionOf, yh_X11_sessionOf⟩
set_option maxRecDepth 100000 in
theorem csn_RX8_136 : CSN RX8 136 yX11_leadOf "OrderedWorks" cX11_leadOf 2 (some .int) 1 := ⟨by decide +kernel, ys_X11_leadOf, in_RX11, yk_X11_leadOf, yh_X11_leadOf⟩
set_option maxRecDepth 100000 in
theorem csn_RX8_230 : CSN RX8 230 yX11_isBehind "OrderedWorks" cX11_isBehind 4 (some .boolean) 2 := ⟨by decide +kernel, ys_X11_isBehind, in_RX11, yk_X11_isBehind, yh_X11_isBehind⟩
set_option maxRecDepth 100000 in
theorem csn_RX10_68 : CSN RX10 68 yX11_isSameRequest "OrderedWorks" cX11_isSameRequest 2 (some .boolean) 2 := ⟨by decide +kernel, ys_X11_isSameRequest, in_RX11, yk_X11_isSameRequest, yh_X11_isSameRequest⟩
set_option maxRecDepth 100000 in
theorem oi_w2 : Cond.instanceMethod objectInit ∈ AW := (aw_t1 28 rfl rfl)
set_option maxRecDepth 100000 in
theorem oi_w3 : Cond.code objectInit ⟨#[0xb1]⟩ 1 none ∈ AW := (aw_t1 29 rfl rfl)
set_option maxRecDepth 100000 in
theorem kk_RX11_410 : Cond.constantLong RX11 410 (4294967295) ∈ AW := (aw_t1 214 rfl rfl)
set_option maxRecDepth 100000 in
theorem kk_RX0_51 : Cond.constant RX0 51 (-306674912) ∈ AW := (aw_t3 147 rfl rfl)
set_option maxRecDepth 100000 in
theorem kk_RX7_81 : Cond.constantLong RX7 81 (2147483647) ∈ AW := (aw_t6 29 rfl rfl)
set_option maxRecDepth 100000 in
theorem kk_RL_165 : Cond.constantLong RL 165 (4294967295) ∈ AW := (aw_t9 86 rfl rfl)
set_option maxRecDepth 100000 in
theorem kk_RX12_17 : Cond.constant RX12 17 (128000) ∈ AW := (aw_t6 54 rfl rfl)
set_option maxRecDepth 100000 in
theorem kk_RX12_507 : Cond.constant RX12 507 (-306674912) ∈ AW := (aw_t8 235 rfl rfl)
set_option maxRecDepth 100000 in
theorem kk_RX12_533 : Cond.constantLong RX12 533 (255) ∈ AW := (aw_t9 16 rfl rfl)
set_option maxRecDepth 100000 in
theorem kk_RX12_553 : Cond.constantLong RX12 553 (2147483647) ∈ AW := (aw_t9 49 rfl rfl)
set_option maxRecDepth 100000 in
theorem kk_RJ6_265 : Cond.constant RJ6 265 (1431655765) ∈ AW := (aw_t4 186 rfl rfl)
set_option maxRecDepth 100000 in
theorem kk_RJ6_266 : Cond.constant RJ6 266 (858993459) ∈ AW := (aw_t4 187 rfl rfl)
set_option maxRecDepth 100000 in
theorem kk_RJ6_267 : Cond.constant RJ6 267 (252645135) ∈ AW := (aw_t4 188 rfl rfl)
set_option maxRecDepth 100000 in
theorem cl_RX11_19 : Cond.classLink RX11 19 RX4 ∈ AW := (aw_t1 33 rfl rfl)
set_option maxRecDepth 100000 in
theorem cl_RX11_28 : Cond.classLink RX11 28 RX10 ∈ AW := (aw_t1 177 rfl rfl)
set_option maxRecDepth 100000 in
theorem cl_RX11_38 : Cond.classLink RX11 38 RX8 ∈ AW := (aw_t1 204 rfl rfl)
set_option maxRecDepth 100000 in
theorem cl_RX11_46 : Cond.classLink RX11 46 RX1 ∈ AW := (aw_t2 84 rfl rfl)
set_option maxRecDepth 100000 in
theorem cl_RX11_60 : Cond.classLink RX11 60 RX6 ∈ AW := (aw_t2 156 rfl rfl)
set_option maxRecDepth 100000 in
theorem cl_RX11_67 : Cond.classLink RX11 67 RX0 ∈ AW := (aw_t2 158 rfl rfl)
set_option maxRecDepth 100000 in
theorem cl_RX11_77 : Cond.classLink RX11 77 RX7 ∈ AW := (aw_t2 176 rfl rfl)
set_option maxRecDepth 100000 in
theorem cl_RX11_110 : Cond.classLink RX11 110 RX9 ∈ AW := (aw_t4 83 rfl rfl)
set_option maxRecDepth 100000 in
theorem cl_RX1_9 : Cond.classLink RX1 9 RX6 ∈ AW := (aw_t2 91 rfl rfl)
set_option maxRecDepth 100000 in
theorem cl_RX2_9 : Cond.classLink RX2 9 RX9 ∈ AW := (aw_t1 52 rfl rfl)
set_option maxRecDepth 100000 in
theorem cl_RX3_9 : Cond.classLink RX3 9 RX2 ∈ AW := (aw_t1 46 rfl rfl)
set_option maxRecDepth 100000 in
theorem cl_RX4_9 : Cond.classLink RX4 9 RX3 ∈ AW := (aw_t1 39 rfl rfl)
set_option maxRecDepth 100000 in
theorem cl_RX5_15 : Cond.classLink RX5 15 RX9 ∈ AW := (aw_t1 223 rfl rfl)
set_option maxRecDepth 100000 in
theorem cl_RX5_31 : Cond.classLink RX5 31 RX2 ∈ AW := (aw_t1 227 rfl rfl)
set_option maxRecDepth 100000 in
theorem cl_RX8_22 : Cond.classLink RX8 22 RX2 ∈ AW := (aw_t1 215 rfl rfl)
set_option maxRecDepth 100000 in
theorem cl_RX8_41 : Cond.classLink RX8 41 RX5 ∈ AW := (aw_t1 217 rfl rfl)
set_option maxRecDepth 100000 in
theorem cl_RL_8 : Cond.classLink RL 8 RX11 ∈ AW := (aw_t1 22 rfl rfl)
set_option maxRecDepth 100000 in
theorem cl_RL_70 : Cond.classLink RL 70 RX12 ∈ AW := (aw_t6 48 rfl rfl)
set_option maxRecDepth 100000 in
theorem ins_0 : Cond.instantiable RX0 2 ∈ AW := (aw_t2 159 rfl rfl)
set_option maxRecDepth 100000 in
theorem ini_0 : Cond.initialized RX0 ∈ AW := (aw_t1 11 rfl rfl)
set_option maxRecDepth 100000 in
theorem ins_1 : Cond.instantiable RX1 8 ∈ AW := (aw_t2 86 rfl rfl)
set_option maxRecDepth 100000 in
theorem ini_1 : Cond.initialized RX1 ∈ AW := (aw_t1 9 rfl rfl)
set_option maxRecDepth 100000 in
theorem ins_2 : Cond.instantiable RX2 3 ∈ AW := (aw_t1 47 rfl rfl)
set_option maxRecDepth 100000 in
theorem ini_2 : Cond.initialized RX2 ∈ AW := (aw_t1 5 rfl rfl)
set_option maxRecDepth 100000 in
theorem ins_3 : Cond.instantiable RX3 12 ∈ AW := (aw_t1 41 rfl rfl)
set_option maxRecDepth 100000 in
theorem ini_3 : Cond.initialized RX3 ∈ AW := (aw_t1 4 rfl rfl)
set_option maxRecDepth 100000 in
theorem ins_4 : Cond.instantiable RX4 9 ∈ AW := (aw_t1 34 rfl rfl)
set_option maxRecDepth 100000 in
theorem ini_4 : Cond.initialized RX4 ∈ AW := (aw_t1 3 rfl rfl)
set_option maxRecDepth 100000 in
theorem ins_5 : Cond.instantiable RX5 9 ∈ AW := (aw_t1 218 rfl rfl)
set_option maxRecDepth 100000 in
theorem ini_5 : Cond.initialized RX5 ∈ AW := (aw_t1 8 rfl rfl)
set_option maxRecDepth 100000 in
theorem ins_6 : Cond.instantiable RX6 6 ∈ AW := (aw_t2 92 rfl rfl)
set_option maxRecDepth 100000 in
theorem ini_6 : Cond.initialized RX6 ∈ AW := (aw_t1 10 rfl rfl)
set_option maxRecDepth 100000 in
theorem ins_7 : Cond.instantiable RX7 6 ∈ AW := (aw_t2 177 rfl rfl)
set_option maxRecDepth 100000 in
theorem ini_7 : Cond.initialized RX7 ∈ AW := (aw_t1 12 rfl rfl)
set_option maxRecDepth 100000 in
theorem ins_8 : Cond.instantiable RX8 16 ∈ AW := (aw_t1 206 rfl rfl)
set_option maxRecDepth 100000 in
theorem ini_8 : Cond.initialized RX8 ∈ AW := (aw_t1 7 rfl rfl)
set_option maxRecDepth 100000 in
theorem ins_9 : Cond.instantiable RX9 5 ∈ AW := (aw_t4 84 rfl rfl)
set_option maxRecDepth 100000 in
theorem ini_9 : Cond.initialized RX9 ∈ AW := (aw_t1 20 rfl rfl)
set_option maxRecDepth 100000 in
theorem ins_10 : Cond.instantiable RX10 5 ∈ AW := (aw_t1 178 rfl rfl)
set_option maxRecDepth 100000 in
theorem ini_10 : Cond.initialized RX10 ∈ AW := (aw_t1 6 rfl rfl)
set_option maxRecDepth 100000 in
theorem ins_11 : Cond.instantiable RX11 14 ∈ AW := (aw_t1 23 rfl rfl)
set_option maxRecDepth 100000 in
theorem ini_11 : Cond.initialized RX11 ∈ AW := (aw_t1 1 rfl rfl)
set_option maxRecDepth 100000 in
theorem ins_12 : Cond.instantiable RX12 99 ∈ AW := (aw_t6 49 rfl rfl)
set_option maxRecDepth 100000 in
theorem ini_12 : Cond.initialized RX12 ∈ AW := (aw_t1 13 rfl rfl)
theorem rak_17 : Rak 17 1 := ⟨by decide, by decide, RX1, TX1, 8, rfl, by decide, fun _ => rfl⟩
theorem rak_18 : Rak 18 2 := ⟨by decide, by decide, RX2, TX2, 3, rfl, by decide, fun _ => rfl⟩
theorem rak_19 : Rak 19 3 := ⟨by decide, by decide, RX3, TX3, 12, rfl, by decide, fun _ => rfl⟩
theorem rak_20 : Rak 20 6 := ⟨by decide, by decide, RX6, TX6, 6, rfl, by decide, fun _ => rfl⟩
theorem rak_21 : Rak 21 8 := ⟨by decide, by decide, RX8, TX8, 16, rfl, by decide, fun _ => rfl⟩
theorem rak_22 : Rak 22 9 := ⟨by decide, by decide, RX9, TX9, 5, rfl, by decide, fun _ => rfl⟩
set_option maxRecDepth 100000 in
theorem nak_13 : Nak .byte 13 := ⟨by decide, (aw_t2 175 rfl rfl), fun _ => rfl, fun U cA h => h, fun cA N => rfl, by decide⟩
set_option maxRecDepth 100000 in
theorem nak_14 : Nak .int 14 := ⟨by decide, (aw_t1 202 rfl rfl), fun _ => rfl, fun U cA h => h, fun cA N => rfl, by decide⟩
set_option maxRecDepth 100000 in
theorem nak_15 : Nak .long 15 := ⟨by decide, (aw_t2 26 rfl rfl), fun _ => rfl, fun U cA h => h, fun cA N => rfl, by decide⟩
set_option maxRecDepth 100000 in
theorem nak_16 : Nak .boolean 16 := ⟨by decide, (aw_t1 203 rfl rfl), fun _ => rfl, fun U cA h => h, fun cA N => rfl, by decide⟩
theorem vrc (x : Option Nat) : (va_rf x).category = 1 := by cases x <;> rfl
