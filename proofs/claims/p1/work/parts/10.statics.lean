theorem lk {n : Nat} {w : Cond} (h : lw_tbl[n]? = some w) : w ∈ lw_tbl := List.mem_of_getElem? h
theorem in_X0 : ∀ w ∈ u_ws RX0 TX0 2, w ∈ lw_tbl := by
  intro w hw
  obtain ⟨k, hk, rfl⟩ := List.mem_map.mp hw
  have hk : k < 2 := List.mem_range.mp hk
  have key : ∀ k : Fin 2, lw_tbl[([408, 410] : List Nat).getD k.val 0]? = some (u_lay RX0 TX0 k.val) := by decide +kernel
  exact lk (key ⟨k, hk⟩)
theorem cls_0 : CLS 0 (RX0, TX0, 2) := ⟨rfl, in_X0, ⟨tyX0, tyX0_ok⟩, nmX0, rfl⟩
theorem in_X1 : ∀ w ∈ u_ws RX1 TX1 9, w ∈ lw_tbl := by
  intro w hw
  obtain ⟨k, hk, rfl⟩ := List.mem_map.mp hw
  have hk : k < 9 := List.mem_range.mp hk
  have key : ∀ k : Fin 9, lw_tbl[([230, 232, 234, 236, 238, 240, 242, 244, 246] : List Nat).getD k.val 0]? = some (u_lay RX1 TX1 k.val) := by decide +kernel
  exact lk (key ⟨k, hk⟩)
theorem cls_1 : CLS 1 (RX1, TX1, 9) := ⟨rfl, in_X1, ⟨tyX1, tyX1_ok⟩, nmX1, rfl⟩
theorem in_X2 : ∀ w ∈ u_ws RX2 TX2 7, w ∈ lw_tbl := by
  intro w hw
  obtain ⟨k, hk, rfl⟩ := List.mem_map.mp hw
  have hk : k < 7 := List.mem_range.mp hk
  have key : ∀ k : Fin 7, lw_tbl[([378, 380, 382, 384, 386, 388, 390] : List Nat).getD k.val 0]? = some (u_lay RX2 TX2 k.val) := by decide +kernel
  exact lk (key ⟨k, hk⟩)
theorem cls_2 : CLS 2 (RX2, TX2, 7) := ⟨rfl, in_X2, ⟨tyX2, tyX2_ok⟩, nmX2, rfl⟩
theorem in_X3 : ∀ w ∈ u_ws RX3 TX3 1, w ∈ lw_tbl := by
  intro w hw
  obtain ⟨k, hk, rfl⟩ := List.mem_map.mp hw
  have hk : k < 1 := List.mem_range.mp hk
  have key : ∀ k : Fin 1, lw_tbl[([476] : List Nat).getD k.val 0]? = some (u_lay RX3 TX3 k.val) := by decide +kernel
  exact lk (key ⟨k, hk⟩)
theorem cls_3 : CLS 3 (RX3, TX3, 1) := ⟨rfl, in_X3, ⟨tyX3, tyX3_ok⟩, nmX3, rfl⟩
theorem in_X4 : ∀ w ∈ u_ws RX4 TX4 7, w ∈ lw_tbl := by
  intro w hw
  obtain ⟨k, hk, rfl⟩ := List.mem_map.mp hw
  have hk : k < 7 := List.mem_range.mp hk
  have key : ∀ k : Fin 7, lw_tbl[([425, 427, 429, 431, 433, 435, 437] : List Nat).getD k.val 0]? = some (u_lay RX4 TX4 k.val) := by decide +kernel
  exact lk (key ⟨k, hk⟩)
theorem cls_4 : CLS 4 (RX4, TX4, 7) := ⟨rfl, in_X4, ⟨tyX4, tyX4_ok⟩, nmX4, rfl⟩
theorem in_X5 : ∀ w ∈ u_ws RX5 TX5 3, w ∈ lw_tbl := by
  intro w hw
  obtain ⟨k, hk, rfl⟩ := List.mem_map.mp hw
  have hk : k < 3 := List.mem_range.mp hk
  have key : ∀ k : Fin 3, lw_tbl[([172, 174, 176] : List Nat).getD k.val 0]? = some (u_lay RX5 TX5 k.val) := by decide +kernel
  exact lk (key ⟨k, hk⟩)
theorem cls_5 : CLS 5 (RX5, TX5, 3) := ⟨rfl, in_X5, ⟨tyX5, tyX5_ok⟩, nmX5, rfl⟩
theorem in_X6 : ∀ w ∈ u_ws RX6 TX6 3, w ∈ lw_tbl := by
  intro w hw
  obtain ⟨k, hk, rfl⟩ := List.mem_map.mp hw
  have hk : k < 3 := List.mem_range.mp hk
  have key : ∀ k : Fin 3, lw_tbl[([362, 364, 366] : List Nat).getD k.val 0]? = some (u_lay RX6 TX6 k.val) := by decide +kernel
  exact lk (key ⟨k, hk⟩)
theorem cls_6 : CLS 6 (RX6, TX6, 3) := ⟨rfl, in_X6, ⟨tyX6, tyX6_ok⟩, nmX6, rfl⟩
theorem in_X7 : ∀ w ∈ u_ws RX7 TX7 6, w ∈ lw_tbl := by
  intro w hw
  obtain ⟨k, hk, rfl⟩ := List.mem_map.mp hw
  have hk : k < 6 := List.mem_range.mp hk
  have key : ∀ k : Fin 6, lw_tbl[([455, 457, 459, 461, 463, 465] : List Nat).getD k.val 0]? = some (u_lay RX7 TX7 k.val) := by decide +kernel
  exact lk (key ⟨k, hk⟩)
theorem cls_7 : CLS 7 (RX7, TX7, 6) := ⟨rfl, in_X7, ⟨tyX7, tyX7_ok⟩, nmX7, rfl⟩
theorem in_X8 : ∀ w ∈ u_ws RX8 TX8 13, w ∈ lw_tbl := by
  intro w hw
  obtain ⟨k, hk, rfl⟩ := List.mem_map.mp hw
  have hk : k < 13 := List.mem_range.mp hk
  have key : ∀ k : Fin 13, lw_tbl[([289, 291, 293, 295, 297, 299, 301, 303, 305, 307, 309, 311, 313] : List Nat).getD k.val 0]? = some (u_lay RX8 TX8 k.val) := by decide +kernel
  exact lk (key ⟨k, hk⟩)
theorem cls_8 : CLS 8 (RX8, TX8, 13) := ⟨rfl, in_X8, ⟨tyX8, tyX8_ok⟩, nmX8, rfl⟩
theorem in_X9 : ∀ w ∈ u_ws RX9 TX9 2, w ∈ lw_tbl := by
  intro w hw
  obtain ⟨k, hk, rfl⟩ := List.mem_map.mp hw
  have hk : k < 2 := List.mem_range.mp hk
  have key : ∀ k : Fin 2, lw_tbl[([151, 153] : List Nat).getD k.val 0]? = some (u_lay RX9 TX9 k.val) := by decide +kernel
  exact lk (key ⟨k, hk⟩)
theorem cls_9 : CLS 9 (RX9, TX9, 2) := ⟨rfl, in_X9, ⟨tyX9, tyX9_ok⟩, nmX9, rfl⟩
theorem in_X10 : ∀ w ∈ u_ws RX10 TX10 8, w ∈ lw_tbl := by
  intro w hw
  obtain ⟨k, hk, rfl⟩ := List.mem_map.mp hw
  have hk : k < 8 := List.mem_range.mp hk
  have key : ∀ k : Fin 8, lw_tbl[([336, 338, 340, 342, 344, 346, 348, 350] : List Nat).getD k.val 0]? = some (u_lay RX10 TX10 k.val) := by decide +kernel
  exact lk (key ⟨k, hk⟩)
theorem cls_10 : CLS 10 (RX10, TX10, 8) := ⟨rfl, in_X10, ⟨tyX10, tyX10_ok⟩, nmX10, rfl⟩
theorem in_X11 : ∀ w ∈ u_ws RX11 TX11 13, w ∈ lw_tbl := by
  intro w hw
  obtain ⟨k, hk, rfl⟩ := List.mem_map.mp hw
  have hk : k < 13 := List.mem_range.mp hk
  have key : ∀ k : Fin 13, lw_tbl[([492, 494, 496, 498, 500, 502, 504, 506, 508, 510, 512, 514, 516] : List Nat).getD k.val 0]? = some (u_lay RX11 TX11 k.val) := by decide +kernel
  exact lk (key ⟨k, hk⟩)
theorem cls_11 : CLS 11 (RX11, TX11, 13) := ⟨rfl, in_X11, ⟨tyX11, tyX11_ok⟩, nmX11, rfl⟩
theorem in_X12 : ∀ w ∈ u_ws RX12 TX12 64, w ∈ lw_tbl := by
  intro w hw
  obtain ⟨k, hk, rfl⟩ := List.mem_map.mp hw
  have hk : k < 64 := List.mem_range.mp hk
  have key : ∀ k : Fin 64, lw_tbl[([1496, 1498, 1500, 1502, 1504, 1506, 1508, 1510, 1512, 1514, 1516, 1518, 1520, 1522, 1524, 1526, 1528, 1530, 1532, 1534, 1536, 1538, 1540, 1542, 1544, 1546, 1548, 1550, 1552, 1554, 1556, 1558, 1560, 1562, 1564, 1566, 1568, 1570, 1572, 1574, 1576, 1578, 1580, 1582, 1584, 1586, 1588, 1590, 1592, 1594, 1596, 1598, 1600, 1602, 1604, 1606, 1608, 1610, 1612, 1614, 1616, 1618, 1620, 1622] : List Nat).getD k.val 0]? = some (u_lay RX12 TX12 k.val) := by decide +kernel
  exact lk (key ⟨k, hk⟩)
theorem cls_12 : CLS 12 (RX12, TX12, 64) := ⟨rfl, in_X12, ⟨tyX12, tyX12_ok⟩, nmX12, rfl⟩
theorem fl_X11_10 : FLD RX11 10 11 0 := ⟨_, cls_11, by decide, Or.inl (lk (n := 479) (by decide +kernel))⟩
theorem fl_X11_19 : FLD RX11 19 11 1 := ⟨_, cls_11, by decide, Or.inl (lk (n := 480) (by decide +kernel))⟩
theorem fl_X11_37 : FLD RX11 37 11 3 := ⟨_, cls_11, by decide, Or.inl (lk (n := 482) (by decide +kernel))⟩
theorem fl_X11_53 : FLD RX11 53 4 0 := ⟨_, cls_4, by decide, Or.inr ⟨"BlueBag", lk (n := 416) (by decide +kernel)⟩⟩
theorem fl_X11_93 : FLD RX11 93 9 1 := ⟨_, cls_9, by decide, Or.inr ⟨"BlueBag", lk (n := 150) (by decide +kernel)⟩⟩
theorem fl_X11_131 : FLD RX11 131 1 0 := ⟨_, cls_1, by decide, Or.inr ⟨"BlueBag", lk (n := 205) (by decide +kernel)⟩⟩
theorem fl_X11_134 : FLD RX11 134 1 4 := ⟨_, cls_1, by decide, Or.inr ⟨"BlueBag", lk (n := 218) (by decide +kernel)⟩⟩
theorem fl_X11_137 : FLD RX11 137 8 11 := ⟨_, cls_8, by decide, Or.inr ⟨"BlueBag", lk (n := 286) (by decide +kernel)⟩⟩
theorem fl_X11_140 : FLD RX11 140 8 9 := ⟨_, cls_8, by decide, Or.inr ⟨"BlueBag", lk (n := 281) (by decide +kernel)⟩⟩
theorem fl_X11_143 : FLD RX11 143 1 2 := ⟨_, cls_1, by decide, Or.inr ⟨"BlueBag", lk (n := 209) (by decide +kernel)⟩⟩
theorem fl_X11_146 : FLD RX11 146 1 3 := ⟨_, cls_1, by decide, Or.inr ⟨"BlueBag", lk (n := 213) (by decide +kernel)⟩⟩
theorem fl_X11_149 : FLD RX11 149 8 10 := ⟨_, cls_8, by decide, Or.inr ⟨"BlueBag", lk (n := 284) (by decide +kernel)⟩⟩
theorem fl_X11_152 : FLD RX11 152 8 7 := ⟨_, cls_8, by decide, Or.inr ⟨"BlueBag", lk (n := 276) (by decide +kernel)⟩⟩
theorem fl_X11_155 : FLD RX11 155 8 8 := ⟨_, cls_8, by decide, Or.inr ⟨"BlueBag", lk (n := 279) (by decide +kernel)⟩⟩
theorem fl_X11_161 : FLD RX11 161 4 1 := ⟨_, cls_4, by decide, Or.inr ⟨"BlueBag", lk (n := 418) (by decide +kernel)⟩⟩
theorem fl_X11_165 : FLD RX11 165 0 1 := ⟨_, cls_0, by decide, Or.inr ⟨"BlueBag", lk (n := 407) (by decide +kernel)⟩⟩
theorem fl_X11_170 : FLD RX11 170 4 6 := ⟨_, cls_4, by decide, Or.inr ⟨"BlueBag", lk (n := 424) (by decide +kernel)⟩⟩
theorem fl_X1_9 : FLD RX1 9 1 6 := ⟨_, cls_1, by decide, Or.inl (lk (n := 223) (by decide +kernel))⟩
theorem fl_X1_48 : FLD RX1 48 1 0 := ⟨_, cls_1, by decide, Or.inl (lk (n := 204) (by decide +kernel))⟩
theorem fl_X1_51 : FLD RX1 51 1 1 := ⟨_, cls_1, by decide, Or.inl (lk (n := 206) (by decide +kernel))⟩
theorem fl_X4_28 : FLD RX4 28 4 5 := ⟨_, cls_4, by decide, Or.inl (lk (n := 422) (by decide +kernel))⟩
theorem fl_X8_9 : FLD RX8 9 8 1 := ⟨_, cls_8, by decide, Or.inl (lk (n := 269) (by decide +kernel))⟩
theorem fl_X8_39 : FLD RX8 39 8 7 := ⟨_, cls_8, by decide, Or.inl (lk (n := 275) (by decide +kernel))⟩
theorem ft_1_0 : FLT 1 0 .int false := by intro q hq; cases hq; exact ⟨by decide +kernel, rfl⟩
theorem ft_1_1 : FLT 1 1 .int false := by intro q hq; cases hq; exact ⟨by decide +kernel, rfl⟩
theorem mw_X1_bitsBeside : MW yX1_bitsBeside cX1_bitsBeside 3 (some .int) 1 := ⟨lk (n := 195) (by decide +kernel), lk (n := 110) (by decide +kernel), by decide, by decide +kernel⟩
theorem mw_X1_cells : MW yX1_cells cX1_cells 1 (some .int) 0 := ⟨lk (n := 191) (by decide +kernel), lk (n := 110) (by decide +kernel), by decide, by decide +kernel⟩
theorem mw_X1_columnOf : MW yX1_columnOf cX1_columnOf 2 (some .int) 1 := ⟨lk (n := 199) (by decide +kernel), lk (n := 110) (by decide +kernel), by decide, by decide +kernel⟩
theorem mw_X4_refused : MW yX4_refused cX4_refused 2 (some .int) 1 := ⟨lk (n := 1086) (by decide +kernel), lk (n := 116) (by decide +kernel), by decide, by decide +kernel⟩
theorem mw_X8_allBlue : MW yX8_allBlue cX8_allBlue 3 (some .int) 0 := ⟨lk (n := 1082) (by decide +kernel), lk (n := 113) (by decide +kernel), by decide, by decide +kernel⟩
theorem mw_X8_isPegged : MW yX8_isPegged cX8_isPegged 2 (some .boolean) 1 := ⟨lk (n := 628) (by decide +kernel), lk (n := 113) (by decide +kernel), by decide, by decide +kernel⟩
theorem mv_X1_bitsBeside : MV 1 yX1_bitsBeside := ⟨lk (n := 194) (by decide +kernel), lk (n := 0) (by decide +kernel), rfl⟩
theorem mv_X1_cells : MV 1 yX1_cells := ⟨lk (n := 189) (by decide +kernel), lk (n := 190) (by decide +kernel), rfl⟩
theorem mv_X1_columnOf : MV 1 yX1_columnOf := ⟨lk (n := 197) (by decide +kernel), lk (n := 198) (by decide +kernel), rfl⟩
theorem mv_X4_refused : MV 4 yX4_refused := ⟨lk (n := 1084) (by decide +kernel), lk (n := 1085) (by decide +kernel), rfl⟩
theorem mv_X8_allBlue : MV 8 yX8_allBlue := ⟨lk (n := 1080) (by decide +kernel), lk (n := 1081) (by decide +kernel), rfl⟩
theorem mv_X8_isPegged : MV 8 yX8_isPegged := ⟨lk (n := 626) (by decide +kernel), lk (n := 627) (by decide +kernel), rfl⟩
theorem ml_X11_128 : Cond.methodLink RX11 128 yX1_cells ∈ lw_tbl := lk (n := 1078) (by decide +kernel)
theorem ml_X11_158 : Cond.methodLink RX11 158 yX8_allBlue ∈ lw_tbl := lk (n := 1079) (by decide +kernel)
theorem ml_X11_173 : Cond.methodLink RX11 173 yX4_refused ∈ lw_tbl := lk (n := 1083) (by decide +kernel)
theorem ml_X1_54 : Cond.methodLink RX1 54 yX1_cells ∈ lw_tbl := lk (n := 188) (by decide +kernel)
theorem ml_X1_58 : Cond.methodLink RX1 58 yX1_bitsBeside ∈ lw_tbl := lk (n := 192) (by decide +kernel)
theorem ml_X1_62 : Cond.methodLink RX1 62 yX1_columnOf ∈ lw_tbl := lk (n := 196) (by decide +kernel)
theorem ml_X8_70 : Cond.methodLink RX8 70 yX8_isPegged ∈ lw_tbl := lk (n := 625) (by decide +kernel)
theorem mt_X8_64 : ∀ w ∈ [Cond.methodLink RX8 64 Lib.Math.min.name, Cond.static Lib.Math.min.name, Cond.initialized "java/lang/Math", Cond.code Lib.Math.min.name Lib.Math.min.code 2 (some .int)], w ∈ lw_tbl := by
  intro w hw
  have key : ∀ k : Fin 4, lw_tbl[([615, 616, 129, 617] : List Nat).getD k.val 0]? = ([Cond.methodLink RX8 64 Lib.Math.min.name, Cond.static Lib.Math.min.name, Cond.initialized "java/lang/Math", Cond.code Lib.Math.min.name Lib.Math.min.code 2 (some .int)])[k.val]? := by decide +kernel
  obtain ⟨k, hk⟩ := List.getElem?_of_mem hw
  have hl : k < 4 := (List.getElem?_eq_some_iff.mp hk).1
  exact lk ((key ⟨k, hl⟩).trans hk)
theorem tw_X11_176_178 : TW RX11 176 178 (exNm 1) ["java/lang/RuntimeException", "java/lang/Exception"] := ⟨by decide +kernel, by decide +kernel, by decide +kernel, by decide +kernel, rfl⟩
theorem k_bipushv_30 : (Int8.ofInt (30)).toInt32 = (30 : Int32) := by decide
theorem k_bipushv_99 : (Int8.ofInt (99)).toInt32 = (99 : Int32) := by decide
theorem k_iconstv_0 : Int32.ofInt (0) = (0 : Int32) := by decide
theorem k_iconstv_1 : Int32.ofInt (1) = (1 : Int32) := by decide
theorem k_iconstv_2 : Int32.ofInt (2) = (2 : Int32) := by decide
theorem k_iconstv_3 : Int32.ofInt (3) = (3 : Int32) := by decide
