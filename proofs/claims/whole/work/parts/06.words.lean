/-! ===== words of the tables, by their places ===== -/
theorem mk_in (i : Nat) {w : Cond} (h : lw_tbl[i]? = some w) (hg : goodWord w = true) : w ∈ mtb := List.mem_filter.mpr ⟨List.mem_of_getElem? h, hg⟩
theorem mk_nest (i : Nat) {w : Cond} (h : lw_tbl[i]? = some w) (hg : mnest w = true) : w ∈ lw_tbl.filter mnest := List.mem_filter.mpr ⟨List.mem_of_getElem? h, hg⟩
theorem mk_t {w : Cond} (h : w ∈ tables_1) : w ∈ lw_tbl := List.mem_append_right _ h
theorem mk_s1 (j : Nat) {w : Cond} (hj : tables_1_1[j]? = some w) (hg : goodWord w = true) : w ∈ mtb := List.mem_filter.mpr ⟨mk_t (have h := List.mem_of_getElem? hj; List.mem_append_left _ h), hg⟩
theorem mk_n1 (j : Nat) {w : Cond} (hj : tables_1_1[j]? = some w) (hg : mnest w = true) : w ∈ lw_tbl.filter mnest := List.mem_filter.mpr ⟨mk_t (have h := List.mem_of_getElem? hj; List.mem_append_left _ h), hg⟩
theorem mk_s2 (j : Nat) {w : Cond} (hj : tables_1_2[j]? = some w) (hg : goodWord w = true) : w ∈ mtb := List.mem_filter.mpr ⟨mk_t (have h := List.mem_of_getElem? hj; List.mem_append_right _ (List.mem_append_left _ h)), hg⟩
theorem mk_n2 (j : Nat) {w : Cond} (hj : tables_1_2[j]? = some w) (hg : mnest w = true) : w ∈ lw_tbl.filter mnest := List.mem_filter.mpr ⟨mk_t (have h := List.mem_of_getElem? hj; List.mem_append_right _ (List.mem_append_left _ h)), hg⟩
theorem mk_s3 (j : Nat) {w : Cond} (hj : tables_1_3[j]? = some w) (hg : goodWord w = true) : w ∈ mtb := List.mem_filter.mpr ⟨mk_t (have h := List.mem_of_getElem? hj; List.mem_append_right _ (List.mem_append_right _ (List.mem_append_left _ h))), hg⟩
theorem mk_n3 (j : Nat) {w : Cond} (hj : tables_1_3[j]? = some w) (hg : mnest w = true) : w ∈ lw_tbl.filter mnest := List.mem_filter.mpr ⟨mk_t (have h := List.mem_of_getElem? hj; List.mem_append_right _ (List.mem_append_right _ (List.mem_append_left _ h))), hg⟩
theorem mk_s4 (j : Nat) {w : Cond} (hj : tables_1_4[j]? = some w) (hg : goodWord w = true) : w ∈ mtb := List.mem_filter.mpr ⟨mk_t (have h := List.mem_of_getElem? hj; List.mem_append_right _ (List.mem_append_right _ (List.mem_append_right _ (List.mem_append_left _ h)))), hg⟩
theorem mk_n4 (j : Nat) {w : Cond} (hj : tables_1_4[j]? = some w) (hg : mnest w = true) : w ∈ lw_tbl.filter mnest := List.mem_filter.mpr ⟨mk_t (have h := List.mem_of_getElem? hj; List.mem_append_right _ (List.mem_append_right _ (List.mem_append_right _ (List.mem_append_left _ h)))), hg⟩
theorem mk_s5 (j : Nat) {w : Cond} (hj : tables_1_5[j]? = some w) (hg : goodWord w = true) : w ∈ mtb := List.mem_filter.mpr ⟨mk_t (have h := List.mem_of_getElem? hj; List.mem_append_right _ (List.mem_append_right _ (List.mem_append_right _ (List.mem_append_right _ (List.mem_append_left _ h))))), hg⟩
theorem mk_n5 (j : Nat) {w : Cond} (hj : tables_1_5[j]? = some w) (hg : mnest w = true) : w ∈ lw_tbl.filter mnest := List.mem_filter.mpr ⟨mk_t (have h := List.mem_of_getElem? hj; List.mem_append_right _ (List.mem_append_right _ (List.mem_append_right _ (List.mem_append_right _ (List.mem_append_left _ h))))), hg⟩
theorem mk_s6 (j : Nat) {w : Cond} (hj : tables_1_6[j]? = some w) (hg : goodWord w = true) : w ∈ mtb := List.mem_filter.mpr ⟨mk_t (have h := List.mem_of_getElem? hj; List.mem_append_right _ (List.mem_append_right _ (List.mem_append_right _ (List.mem_append_right _ (List.mem_append_right _ (List.mem_append_left _ h)))))), hg⟩
theorem mk_n6 (j : Nat) {w : Cond} (hj : tables_1_6[j]? = some w) (hg : mnest w = true) : w ∈ lw_tbl.filter mnest := List.mem_filter.mpr ⟨mk_t (have h := List.mem_of_getElem? hj; List.mem_append_right _ (List.mem_append_right _ (List.mem_append_right _ (List.mem_append_right _ (List.mem_append_right _ (List.mem_append_left _ h)))))), hg⟩
theorem mk_s7 (j : Nat) {w : Cond} (hj : tables_1_7[j]? = some w) (hg : goodWord w = true) : w ∈ mtb := List.mem_filter.mpr ⟨mk_t (have h := List.mem_of_getElem? hj; List.mem_append_right _ (List.mem_append_right _ (List.mem_append_right _ (List.mem_append_right _ (List.mem_append_right _ (List.mem_append_right _ (List.mem_append_left _ h))))))), hg⟩
theorem mk_n7 (j : Nat) {w : Cond} (hj : tables_1_7[j]? = some w) (hg : mnest w = true) : w ∈ lw_tbl.filter mnest := List.mem_filter.mpr ⟨mk_t (have h := List.mem_of_getElem? hj; List.mem_append_right _ (List.mem_append_right _ (List.mem_append_right _ (List.mem_append_right _ (List.mem_append_right _ (List.mem_append_right _ (List.mem_append_left _ h))))))), hg⟩
theorem mk_s8 (j : Nat) {w : Cond} (hj : tables_1_8[j]? = some w) (hg : goodWord w = true) : w ∈ mtb := List.mem_filter.mpr ⟨mk_t (have h := List.mem_of_getElem? hj; List.mem_append_right _ (List.mem_append_right _ (List.mem_append_right _ (List.mem_append_right _ (List.mem_append_right _ (List.mem_append_right _ (List.mem_append_right _ (List.mem_append_left _ h)))))))), hg⟩
theorem mk_n8 (j : Nat) {w : Cond} (hj : tables_1_8[j]? = some w) (hg : mnest w = true) : w ∈ lw_tbl.filter mnest := List.mem_filter.mpr ⟨mk_t (have h := List.mem_of_getElem? hj; List.mem_append_right _ (List.mem_append_right _ (List.mem_append_right _ (List.mem_append_right _ (List.mem_append_right _ (List.mem_append_right _ (List.mem_append_right _ (List.mem_append_left _ h)))))))), hg⟩
theorem mk_s9 (j : Nat) {w : Cond} (hj : tables_1_9[j]? = some w) (hg : goodWord w = true) : w ∈ mtb := List.mem_filter.mpr ⟨mk_t (have h := List.mem_of_getElem? hj; List.mem_append_right _ (List.mem_append_right _ (List.mem_append_right _ (List.mem_append_right _ (List.mem_append_right _ (List.mem_append_right _ (List.mem_append_right _ (List.mem_append_right _ (List.mem_append_left _ h))))))))), hg⟩
theorem mk_n9 (j : Nat) {w : Cond} (hj : tables_1_9[j]? = some w) (hg : mnest w = true) : w ∈ lw_tbl.filter mnest := List.mem_filter.mpr ⟨mk_t (have h := List.mem_of_getElem? hj; List.mem_append_right _ (List.mem_append_right _ (List.mem_append_right _ (List.mem_append_right _ (List.mem_append_right _ (List.mem_append_right _ (List.mem_append_right _ (List.mem_append_right _ (List.mem_append_left _ h))))))))), hg⟩
theorem mk_s10 (j : Nat) {w : Cond} (hj : tables_1_10[j]? = some w) (hg : goodWord w = true) : w ∈ mtb := List.mem_filter.mpr ⟨mk_t (have h := List.mem_of_getElem? hj; List.mem_append_right _ (List.mem_append_right _ (List.mem_append_right _ (List.mem_append_right _ (List.mem_append_right _ (List.mem_append_right _ (List.mem_append_right _ (List.mem_append_right _ (List.mem_append_right _ (h)))))))))), hg⟩
theorem mk_n10 (j : Nat) {w : Cond} (hj : tables_1_10[j]? = some w) (hg : mnest w = true) : w ∈ lw_tbl.filter mnest := List.mem_filter.mpr ⟨mk_t (have h := List.mem_of_getElem? hj; List.mem_append_right _ (List.mem_append_right _ (List.mem_append_right _ (List.mem_append_right _ (List.mem_append_right _ (List.mem_append_right _ (List.mem_append_right _ (List.mem_append_right _ (List.mem_append_right _ (h)))))))))), hg⟩
theorem mk_p (q : MethodName × Nat) (h : q ∈ lw_privs) : Cond.selects q.1.cls q.1 q.1 ∈ mtb := List.mem_filter.mpr ⟨List.mem_append_left _ (List.mem_map.mpr ⟨q, h, rfl⟩), rfl⟩
set_option maxRecDepth 20000 in
theorem iX1 : ∀ w ∈ u_ws RX1 TX1 4, w ∈ mtb := by
  have e : u_ws RX1 TX1 4 = ([217, 219, 221, 223] : List Nat).filterMap (fun i => lw_tbl[i]?) := by decide +kernel
  have g : (u_ws RX1 TX1 4).all goodWord = true := by decide +kernel
  intro w hw
  refine List.mem_filter.mpr ⟨?_, List.all_eq_true.mp g w hw⟩
  rw [e] at hw
  obtain ⟨i, -, hi⟩ := List.mem_filterMap.mp hw
  exact List.mem_of_getElem? hi
set_option maxRecDepth 20000 in
theorem iX2 : ∀ w ∈ u_ws RX2 TX2 11, w ∈ mtb := by
  have e : u_ws RX2 TX2 11 = ([654, 656, 658, 660, 662, 664, 666, 668, 670, 672, 674] : List Nat).filterMap (fun i => lw_tbl[i]?) := by decide +kernel
  have g : (u_ws RX2 TX2 11).all goodWord = true := by decide +kernel
  intro w hw
  refine List.mem_filter.mpr ⟨?_, List.all_eq_true.mp g w hw⟩
  rw [e] at hw
  obtain ⟨i, -, hi⟩ := List.mem_filterMap.mp hw
  exact List.mem_of_getElem? hi
set_option maxRecDepth 20000 in
theorem iX3 : ∀ w ∈ u_ws RX3 TX3 5, w ∈ mtb := by
  have e : u_ws RX3 TX3 5 = ([238, 240, 242, 244, 246] : List Nat).filterMap (fun i => lw_tbl[i]?) := by decide +kernel
  have g : (u_ws RX3 TX3 5).all goodWord = true := by decide +kernel
  intro w hw
  refine List.mem_filter.mpr ⟨?_, List.all_eq_true.mp g w hw⟩
  rw [e] at hw
  obtain ⟨i, -, hi⟩ := List.mem_filterMap.mp hw
  exact List.mem_of_getElem? hi
set_option maxRecDepth 20000 in
theorem iX4 : ∀ w ∈ u_ws RX4 TX4 8, w ∈ mtb := by
  have e : u_ws RX4 TX4 8 = ([556, 558, 560, 562, 564, 566, 568, 570] : List Nat).filterMap (fun i => lw_tbl[i]?) := by decide +kernel
  have g : (u_ws RX4 TX4 8).all goodWord = true := by decide +kernel
  intro w hw
  refine List.mem_filter.mpr ⟨?_, List.all_eq_true.mp g w hw⟩
  rw [e] at hw
  obtain ⟨i, -, hi⟩ := List.mem_filterMap.mp hw
  exact List.mem_of_getElem? hi
set_option maxRecDepth 20000 in
theorem iX5 : ∀ w ∈ u_ws RX5 TX5 20, w ∈ mtb := by
  have e : u_ws RX5 TX5 20 = ([331, 333, 335, 337, 339, 341, 343, 345, 347, 349, 351, 353, 355, 357, 359, 361, 363, 365, 367, 369] : List Nat).filterMap (fun i => lw_tbl[i]?) := by decide +kernel
  have g : (u_ws RX5 TX5 20).all goodWord = true := by decide +kernel
  intro w hw
  refine List.mem_filter.mpr ⟨?_, List.all_eq_true.mp g w hw⟩
  rw [e] at hw
  obtain ⟨i, -, hi⟩ := List.mem_filterMap.mp hw
  exact List.mem_of_getElem? hi
set_option maxRecDepth 20000 in
theorem iX6 : ∀ w ∈ u_ws RX6 TX6 8, w ∈ mtb := by
  have e : u_ws RX6 TX6 8 = ([590, 592, 594, 596, 598, 600, 602, 604] : List Nat).filterMap (fun i => lw_tbl[i]?) := by decide +kernel
  have g : (u_ws RX6 TX6 8).all goodWord = true := by decide +kernel
  intro w hw
  refine List.mem_filter.mpr ⟨?_, List.all_eq_true.mp g w hw⟩
  rw [e] at hw
  obtain ⟨i, -, hi⟩ := List.mem_filterMap.mp hw
  exact List.mem_of_getElem? hi
set_option maxRecDepth 20000 in
theorem iX7 : ∀ w ∈ u_ws RX7 TX7 2, w ∈ mtb := by
  have e : u_ws RX7 TX7 2 = ([188, 190] : List Nat).filterMap (fun i => lw_tbl[i]?) := by decide +kernel
  have g : (u_ws RX7 TX7 2).all goodWord = true := by decide +kernel
  intro w hw
  refine List.mem_filter.mpr ⟨?_, List.all_eq_true.mp g w hw⟩
  rw [e] at hw
  obtain ⟨i, -, hi⟩ := List.mem_filterMap.mp hw
  exact List.mem_of_getElem? hi
set_option maxRecDepth 20000 in
theorem iX8 : ∀ w ∈ u_ws RX8 TX8 5, w ∈ mtb := by
  have e : u_ws RX8 TX8 5 = ([620, 622, 624, 626, 628] : List Nat).filterMap (fun i => lw_tbl[i]?) := by decide +kernel
  have g : (u_ws RX8 TX8 5).all goodWord = true := by decide +kernel
  intro w hw
  refine List.mem_filter.mpr ⟨?_, List.all_eq_true.mp g w hw⟩
  rw [e] at hw
  obtain ⟨i, -, hi⟩ := List.mem_filterMap.mp hw
  exact List.mem_of_getElem? hi
set_option maxRecDepth 20000 in
theorem iX9 : ∀ w ∈ u_ws RX9 TX9 16, w ∈ mtb := by
  have e : u_ws RX9 TX9 16 = ([440, 442, 444, 446, 448, 450, 452, 454, 456, 458, 460, 462, 464, 466, 468, 470] : List Nat).filterMap (fun i => lw_tbl[i]?) := by decide +kernel
  have g : (u_ws RX9 TX9 16).all goodWord = true := by decide +kernel
  intro w hw
  refine List.mem_filter.mpr ⟨?_, List.all_eq_true.mp g w hw⟩
  rw [e] at hw
  obtain ⟨i, -, hi⟩ := List.mem_filterMap.mp hw
  exact List.mem_of_getElem? hi
set_option maxRecDepth 20000 in
theorem iX10 : ∀ w ∈ u_ws RX10 TX10 11, w ∈ mtb := by
  have e : u_ws RX10 TX10 11 = ([398, 400, 402, 404, 406, 408, 410, 412, 414, 416, 418] : List Nat).filterMap (fun i => lw_tbl[i]?) := by decide +kernel
  have g : (u_ws RX10 TX10 11).all goodWord = true := by decide +kernel
  intro w hw
  refine List.mem_filter.mpr ⟨?_, List.all_eq_true.mp g w hw⟩
  rw [e] at hw
  obtain ⟨i, -, hi⟩ := List.mem_filterMap.mp hw
  exact List.mem_of_getElem? hi
set_option maxRecDepth 20000 in
theorem iX11 : ∀ w ∈ u_ws RX11 TX11 10, w ∈ mtb := by
  have e : u_ws RX11 TX11 10 = ([515, 517, 519, 521, 523, 525, 527, 529, 531, 533] : List Nat).filterMap (fun i => lw_tbl[i]?) := by decide +kernel
  have g : (u_ws RX11 TX11 10).all goodWord = true := by decide +kernel
  intro w hw
  refine List.mem_filter.mpr ⟨?_, List.all_eq_true.mp g w hw⟩
  rw [e] at hw
  obtain ⟨i, -, hi⟩ := List.mem_filterMap.mp hw
  exact List.mem_of_getElem? hi
set_option maxRecDepth 20000 in
theorem iX13 : ∀ w ∈ u_ws RX13 TX13 9, w ∈ mtb := by
  have e : u_ws RX13 TX13 9 = ([686, 688, 690, 692, 694, 696, 698, 700, 702] : List Nat).filterMap (fun i => lw_tbl[i]?) := by decide +kernel
  have g : (u_ws RX13 TX13 9).all goodWord = true := by decide +kernel
  intro w hw
  refine List.mem_filter.mpr ⟨?_, List.all_eq_true.mp g w hw⟩
  rw [e] at hw
  obtain ⟨i, -, hi⟩ := List.mem_filterMap.mp hw
  exact List.mem_of_getElem? hi
set_option maxRecDepth 20000 in
theorem iX14 : ∀ w ∈ u_ws RX14 TX14 100, w ∈ mtb := by
  have e : u_ws RX14 TX14 100 = ([1685, 1687, 1689, 1691, 1693, 1695, 1697, 1699, 1701, 1703, 1705, 1707, 1709, 1711, 1713, 1715, 1717, 1719, 1721, 1723, 1725, 1727, 1729, 1731, 1733, 1735, 1737, 1739, 1741, 1743, 1745, 1747, 1749, 1751, 1753, 1755, 1757, 1759, 1761, 1763, 1765, 1767, 1769, 1771, 1773, 1775, 1777, 1779, 1781, 1783, 1785, 1787, 1789, 1791, 1793, 1795, 1797, 1799, 1801, 1803, 1805, 1807, 1809, 1811, 1813, 1815, 1817, 1819, 1821, 1823, 1825, 1827, 1829, 1831, 1833, 1835, 1837, 1839, 1841, 1843, 1845, 1847, 1849, 1851, 1853, 1855, 1857, 1859, 1861, 1863, 1865, 1867, 1869, 1871, 1873, 1875, 1877, 1879, 1881, 1883] : List Nat).filterMap (fun i => lw_tbl[i]?) := by decide +kernel
  have g : (u_ws RX14 TX14 100).all goodWord = true := by decide +kernel
  intro w hw
  refine List.mem_filter.mpr ⟨?_, List.all_eq_true.mp g w hw⟩
  rw [e] at hw
  obtain ⟨i, -, hi⟩ := List.mem_filterMap.mp hw
  exact List.mem_of_getElem? hi
theorem k_0 : Cond.selects RX13 yX13_putBytes yX13_putBytes ∈ mtb := mk_in 0 rfl rfl
theorem k_1 : Cond.selects RX10 yX10_byteAt yX10_byteAt ∈ mtb := mk_in 1 rfl rfl
theorem k_2 : Cond.selects RX10 yX10_scanWord yX10_scanWord ∈ mtb := mk_in 2 rfl rfl
theorem k_3 : Cond.selects RX10 yX10_put yX10_put ∈ mtb := mk_in 3 rfl rfl
theorem k_4 : Cond.selects RX10 yX10_scanNumber yX10_scanNumber ∈ mtb := mk_in 4 rfl rfl
theorem k_5 : Cond.selects RX10 yX10_scanSign yX10_scanSign ∈ mtb := mk_in 5 rfl rfl
theorem k_6 : Cond.selects RX9 yX9_readLine yX9_readLine ∈ mtb := mk_in 6 rfl rfl
theorem k_7 : Cond.selects RX9 yX9_refuse yX9_refuse ∈ mtb := mk_in 7 rfl rfl
theorem k_8 : Cond.selects RX9 yX9_readPond yX9_readPond ∈ mtb := mk_in 8 rfl rfl
theorem k_9 : Cond.selects RX9 yX9_readNumber yX9_readNumber ∈ mtb := mk_in 9 rfl rfl
theorem k_10 : Cond.selects RX9 yX9_readLand yX9_readLand ∈ mtb := mk_in 10 rfl rfl
theorem k_11 : Cond.selects RX9 yX9_beginCells yX9_beginCells ∈ mtb := mk_in 11 rfl rfl
theorem k_12 : Cond.selects RX9 yX9_readCell yX9_readCell ∈ mtb := mk_in 12 rfl rfl
theorem k_13 : Cond.selects RX9 yX9_readReed yX9_readReed ∈ mtb := mk_in 13 rfl rfl
theorem k_14 : Cond.selects RX9 yX9_readShoreCell yX9_readShoreCell ∈ mtb := mk_in 14 rfl rfl
theorem k_15 : Cond.selects RX9 yX9_readKind yX9_readKind ∈ mtb := mk_in 15 rfl rfl
theorem k_16 : Cond.selects RX9 yX9_readNewName yX9_readNewName ∈ mtb := mk_in 16 rfl rfl
theorem k_17 : Cond.selects RX9 yX9_readRises yX9_readRises ∈ mtb := mk_in 17 rfl rfl
theorem k_18 : Cond.selects RX9 yX9_readPlaced yX9_readPlaced ∈ mtb := mk_in 18 rfl rfl
theorem k_19 : Cond.selects RX9 yX9_readDrop yX9_readDrop ∈ mtb := mk_in 19 rfl rfl
theorem k_20 : Cond.selects RX9 yX9_readLoss yX9_readLoss ∈ mtb := mk_in 20 rfl rfl
theorem k_21 : Cond.selects RX9 yX9_readOnce yX9_readOnce ∈ mtb := mk_in 21 rfl rfl
theorem k_22 : Cond.selects RX9 yX9_readThick yX9_readThick ∈ mtb := mk_in 22 rfl rfl
theorem k_23 : Cond.selects RX9 yX9_readSent yX9_readSent ∈ mtb := mk_in 23 rfl rfl
theorem k_24 : Cond.selects RX9 yX9_readLaw yX9_readLaw ∈ mtb := mk_in 24 rfl rfl
theorem k_25 : Cond.selects RX9 yX9_lawEnds yX9_lawEnds ∈ mtb := mk_in 25 rfl rfl
theorem k_26 : Cond.selects RX9 yX9_readBehindOperand yX9_readBehindOperand ∈ mtb := mk_in 26 rfl rfl
theorem k_27 : Cond.selects RX9 yX9_readClose yX9_readClose ∈ mtb := mk_in 27 rfl rfl
theorem k_28 : Cond.selects RX9 yX9_release yX9_release ∈ mtb := mk_in 28 rfl rfl
theorem k_29 : Cond.selects RX9 yX9_topRank yX9_topRank ∈ mtb := mk_in 29 rfl rfl
theorem k_30 : Cond.selects RX9 yX9_wordCode yX9_wordCode ∈ mtb := mk_in 30 rfl rfl
theorem k_31 : Cond.selects RX9 yX9_isRoomForKnot yX9_isRoomForKnot ∈ mtb := mk_in 31 rfl rfl
theorem k_32 : Cond.selects RX9 yX9_hold yX9_hold ∈ mtb := mk_in 32 rfl rfl
theorem k_33 : Cond.selects RX9 yX9_readOperand yX9_readOperand ∈ mtb := mk_in 33 rfl rfl
theorem k_34 : Cond.selects RX9 yX9_readLeaf yX9_readLeaf ∈ mtb := mk_in 34 rfl rfl
theorem k_35 : Cond.selects RX9 yX9_readMay yX9_readMay ∈ mtb := mk_in 35 rfl rfl
theorem k_36 : Cond.selects RX9 yX9_lineEnds yX9_lineEnds ∈ mtb := mk_in 36 rfl rfl
theorem k_37 : Cond.selects RX6 yX6_layNeighbours yX6_layNeighbours ∈ mtb := mk_in 37 rfl rfl
theorem k_38 : Cond.selects RX6 yX6_setNear yX6_setNear ∈ mtb := mk_in 38 rfl rfl
theorem k_39 : Cond.selects RX6 yX6_spread yX6_spread ∈ mtb := mk_in 39 rfl rfl
theorem k_40 : Cond.selects RX6 yX6_handOn yX6_handOn ∈ mtb := mk_in 40 rfl rfl
theorem k_41 : Cond.selects RX6 yX6_spreadRises yX6_spreadRises ∈ mtb := mk_in 41 rfl rfl
theorem k_42 : Cond.selects RX6 yX6_partOf yX6_partOf ∈ mtb := mk_in 42 rfl rfl
theorem k_43 : Cond.selects RX6 yX6_addSum yX6_addSum ∈ mtb := mk_in 43 rfl rfl
theorem k_44 : Cond.selects RX6 yX6_pourBy yX6_pourBy ∈ mtb := mk_in 44 rfl rfl
theorem k_45 : Cond.selects RX6 yX6_sentOf yX6_sentOf ∈ mtb := mk_in 45 rfl rfl
theorem k_46 : Cond.selects RX8 yX8_follow yX8_follow ∈ mtb := mk_in 46 rfl rfl
theorem k_47 : Cond.selects RX8 yX8_next yX8_next ∈ mtb := mk_in 47 rfl rfl
theorem k_48 : Cond.selects RX8 yX8_arrivalOnPath yX8_arrivalOnPath ∈ mtb := mk_in 48 rfl rfl
theorem k_49 : Cond.selects RX8 yX8_firstSeen yX8_firstSeen ∈ mtb := mk_in 49 rfl rfl
theorem k_50 : Cond.selects RX8 yX8_isLie yX8_isLie ∈ mtb := mk_in 50 rfl rfl
theorem k_51 : Cond.selects RX11 yX11_remember yX11_remember ∈ mtb := mk_in 51 rfl rfl
theorem k_52 : Cond.selects RX11 yX11_changeReeds yX11_changeReeds ∈ mtb := mk_in 52 rfl rfl
theorem k_53 : Cond.selects RX2 yX2_walkCells yX2_walkCells ∈ mtb := mk_in 53 rfl rfl
theorem k_54 : Cond.selects RX2 yX2_isTale yX2_isTale ∈ mtb := mk_in 54 rfl rfl
theorem k_55 : Cond.selects RX6 yX6_farBy yX6_farBy ∈ mtb := mk_in 55 rfl rfl
theorem k_56 : Cond.selects RX2 yX2_fitsBy yX2_fitsBy ∈ mtb := mk_in 56 rfl rfl
theorem k_57 : Cond.selects RX2 yX2_riseBy yX2_riseBy ∈ mtb := mk_in 57 rfl rfl
theorem k_58 : Cond.selects RX2 yX2_gatherCompared yX2_gatherCompared ∈ mtb := mk_in 58 rfl rfl
theorem k_59 : Cond.selects RX2 yX2_showCompared yX2_showCompared ∈ mtb := mk_in 59 rfl rfl
theorem k_60 : Cond.selects RX2 yX2_showRow yX2_showRow ∈ mtb := mk_in 60 rfl rfl
theorem k_61 : Cond.selects RX2 yX2_markTeller yX2_markTeller ∈ mtb := mk_in 61 rfl rfl
theorem k_62 : Cond.selects RX2 yX2_rowsDiffer yX2_rowsDiffer ∈ mtb := mk_in 62 rfl rfl
theorem k_63 : Cond.selects RX2 yX2_tellsApart yX2_tellsApart ∈ mtb := mk_in 63 rfl rfl
theorem k_64 : Cond.selects RX2 yX2_differenceFrom yX2_differenceFrom ∈ mtb := mk_in 64 rfl rfl
theorem k_65 : Cond.selects RX2 yX2_drawnRise yX2_drawnRise ∈ mtb := mk_in 65 rfl rfl
theorem k_66 : Cond.selects RX2 yX2_drawNumber yX2_drawNumber ∈ mtb := mk_in 66 rfl rfl
theorem k_68 : Cond.selects RX14 yX14_plain yX14_plain ∈ mtb := mk_in 68 rfl rfl
theorem k_69 : Cond.selects RX14 yX14_keepText yX14_keepText ∈ mtb := mk_in 69 rfl rfl
theorem k_70 : Cond.selects RX14 yX14_layWays yX14_layWays ∈ mtb := mk_in 70 rfl rfl
theorem k_71 : Cond.selects RX14 yX14_isWater yX14_isWater ∈ mtb := mk_in 71 rfl rfl
theorem k_72 : Cond.selects RX14 yX14_isCell yX14_isCell ∈ mtb := mk_in 72 rfl rfl
theorem k_73 : Cond.selects RX14 yX14_cells yX14_cells ∈ mtb := mk_in 73 rfl rfl
theorem k_74 : Cond.selects RX14 yX14_layFar yX14_layFar ∈ mtb := mk_in 74 rfl rfl
theorem k_75 : Cond.selects RX14 yX14_nextTo yX14_nextTo ∈ mtb := mk_in 75 rfl rfl
theorem k_76 : Cond.selects RX14 yX14_plainShores yX14_plainShores ∈ mtb := mk_in 76 rfl rfl
theorem k_77 : Cond.selects RX14 yX14_token yX14_token ∈ mtb := mk_in 77 rfl rfl
theorem k_78 : Cond.selects RX14 yX14_isSmall yX14_isSmall ∈ mtb := mk_in 78 rfl rfl
theorem k_79 : Cond.selects RX14 yX14_wordAt yX14_wordAt ∈ mtb := mk_in 79 rfl rfl
theorem k_80 : Cond.selects RX14 yX14_packed yX14_packed ∈ mtb := mk_in 80 rfl rfl
theorem k_81 : Cond.selects RX14 yX14_isDigit yX14_isDigit ∈ mtb := mk_in 81 rfl rfl
theorem k_82 : Cond.selects RX14 yX14_signToken yX14_signToken ∈ mtb := mk_in 82 rfl rfl
theorem k_83 : Cond.selects RX14 yX14_lineRead yX14_lineRead ∈ mtb := mk_in 83 rfl rfl
theorem k_84 : Cond.selects RX14 yX14_wrong yX14_wrong ∈ mtb := mk_in 84 rfl rfl
theorem k_85 : Cond.selects RX14 yX14_number yX14_number ∈ mtb := mk_in 85 rfl rfl
theorem k_86 : Cond.selects RX14 yX14_groundLine yX14_groundLine ∈ mtb := mk_in 86 rfl rfl
theorem k_87 : Cond.selects RX14 yX14_cellRead yX14_cellRead ∈ mtb := mk_in 87 rfl rfl
theorem k_88 : Cond.selects RX14 yX14_wrongCell yX14_wrongCell ∈ mtb := mk_in 88 rfl rfl
theorem k_89 : Cond.selects RX14 yX14_kindLine yX14_kindLine ∈ mtb := mk_in 89 rfl rfl
theorem k_90 : Cond.selects RX14 yX14_newName yX14_newName ∈ mtb := mk_in 90 rfl rfl
theorem k_91 : Cond.selects RX14 yX14_signed yX14_signed ∈ mtb := mk_in 91 rfl rfl
theorem k_92 : Cond.selects RX14 yX14_isSign yX14_isSign ∈ mtb := mk_in 92 rfl rfl
theorem k_93 : Cond.selects RX14 yX14_isKey yX14_isKey ∈ mtb := mk_in 93 rfl rfl
theorem k_94 : Cond.selects RX14 yX14_waterRead yX14_waterRead ∈ mtb := mk_in 94 rfl rfl
theorem k_95 : Cond.selects RX14 yX14_dropLine yX14_dropLine ∈ mtb := mk_in 95 rfl rfl
theorem k_96 : Cond.selects RX14 yX14_sumRead yX14_sumRead ∈ mtb := mk_in 96 rfl rfl
theorem k_97 : Cond.selects RX14 yX14_leafRead yX14_leafRead ∈ mtb := mk_in 97 rfl rfl
theorem k_98 : Cond.selects RX14 yX14_waitsFor yX14_waitsFor ∈ mtb := mk_in 98 rfl rfl
theorem k_99 : Cond.selects RX14 yX14_isCounted yX14_isCounted ∈ mtb := mk_in 99 rfl rfl
theorem k_100 : Cond.selects RX14 yX14_nameMet yX14_nameMet ∈ mtb := mk_in 100 rfl rfl
theorem k_101 : Cond.selects RX14 yX14_grown yX14_grown ∈ mtb := mk_in 101 rfl rfl
theorem k_102 : Cond.selects RX14 yX14_signs yX14_signs ∈ mtb := mk_in 102 rfl rfl
theorem k_103 : Cond.selects RX14 yX14_bind yX14_bind ∈ mtb := mk_in 103 rfl rfl
theorem k_104 : Cond.selects RX14 yX14_dropHeld yX14_dropHeld ∈ mtb := mk_in 104 rfl rfl
theorem k_105 : Cond.selects RX14 yX14_mayLine yX14_mayLine ∈ mtb := mk_in 105 rfl rfl
theorem k_106 : Cond.selects RX14 yX14_isKind yX14_isKind ∈ mtb := mk_in 106 rfl rfl
theorem k_107 : Cond.selects RX14 yX14_fails yX14_fails ∈ mtb := mk_in 107 rfl rfl
theorem k_108 : Cond.selects RX14 yX14_riseIn yX14_riseIn ∈ mtb := mk_in 108 rfl rfl
theorem k_109 : Cond.selects RX14 yX14_gives yX14_gives ∈ mtb := mk_in 109 rfl rfl
theorem k_110 : Cond.selects RX14 yX14_riseAt yX14_riseAt ∈ mtb := mk_in 110 rfl rfl
theorem k_111 : Cond.selects RX14 yX14_partOf yX14_partOf ∈ mtb := mk_in 111 rfl rfl
theorem k_112 : Cond.selects RX14 yX14_isCork yX14_isCork ∈ mtb := mk_in 112 rfl rfl
theorem k_113 : Cond.selects RX14 yX14_isSkater yX14_isSkater ∈ mtb := mk_in 113 rfl rfl
theorem k_114 : Cond.selects RX14 yX14_lawOf yX14_lawOf ∈ mtb := mk_in 114 rfl rfl
theorem k_115 : Cond.selects RX14 yX14_valueOf yX14_valueOf ∈ mtb := mk_in 115 rfl rfl
theorem k_116 : Cond.selects RX14 yX14_bounded yX14_bounded ∈ mtb := mk_in 116 rfl rfl
theorem k_117 : Cond.selects RX14 yX14_times yX14_times ∈ mtb := mk_in 117 rfl rfl
theorem k_118 : Cond.selects RX14 yX14_goesFrom yX14_goesFrom ∈ mtb := mk_in 118 rfl rfl
theorem k_119 : Cond.selects RX14 yX14_comesTo yX14_comesTo ∈ mtb := mk_in 119 rfl rfl
theorem k_120 : Cond.selects RX14 yX14_remember yX14_remember ∈ mtb := mk_in 120 rfl rfl
theorem k_121 : Cond.selects RX14 yX14_noted yX14_noted ∈ mtb := mk_in 121 rfl rfl
theorem k_122 : Cond.selects RX14 yX14_layTales yX14_layTales ∈ mtb := mk_in 122 rfl rfl
theorem k_123 : Cond.selects RX14 yX14_layCounts yX14_layCounts ∈ mtb := mk_in 123 rfl rfl
theorem k_124 : Cond.selects RX14 yX14_knownBy yX14_knownBy ∈ mtb := mk_in 124 rfl rfl
theorem k_125 : Cond.selects RX14 yX14_tells yX14_tells ∈ mtb := mk_in 125 rfl rfl
theorem k_126 : Cond.selects RX14 yX14_isFit yX14_isFit ∈ mtb := mk_in 126 rfl rfl
theorem k_127 : Cond.selects RX14 yX14_layFalls yX14_layFalls ∈ mtb := mk_in 127 rfl rfl
theorem k_128 : Cond.selects RX14 yX14_layShown yX14_layShown ∈ mtb := mk_in 128 rfl rfl
theorem k_129 : Cond.selects RX14 yX14_tellsAll yX14_tellsAll ∈ mtb := mk_in 129 rfl rfl
theorem k_130 : Cond.selects RX14 yX14_unlike yX14_unlike ∈ mtb := mk_in 130 rfl rfl
theorem k_131 : Cond.selects RX14 yX14_drawn1 yX14_drawn1 ∈ mtb := mk_in 131 rfl rfl
theorem k_132 : Cond.selects RX14 yX14_manyReeds yX14_manyReeds ∈ mtb := mk_in 132 rfl rfl
theorem k_134 : Cond.initialized RX13 ∈ mtb := mk_s1 1 rfl rfl
theorem k_135 : Cond.initialized RX5 ∈ mtb := mk_s1 2 rfl rfl
theorem k_136 : Cond.initialized RX7 ∈ mtb := mk_s1 3 rfl rfl
theorem k_137 : Cond.initialized RJ9 ∈ mtb := mk_s1 4 rfl rfl
theorem k_138 : Cond.initialized RX1 ∈ mtb := mk_s1 5 rfl rfl
theorem k_139 : Cond.initialized RX3 ∈ mtb := mk_s1 6 rfl rfl
theorem k_140 : Cond.initialized RX9 ∈ mtb := mk_s1 7 rfl rfl
theorem k_141 : Cond.initialized RX10 ∈ mtb := mk_s1 8 rfl rfl
theorem k_142 : Cond.initialized RX11 ∈ mtb := mk_s1 9 rfl rfl
theorem k_143 : Cond.initialized RX4 ∈ mtb := mk_s1 10 rfl rfl
theorem k_144 : Cond.initialized RX6 ∈ mtb := mk_s1 11 rfl rfl
theorem k_145 : Cond.initialized RX8 ∈ mtb := mk_s1 12 rfl rfl
theorem k_146 : Cond.initialized RX2 ∈ mtb := mk_s1 13 rfl rfl
theorem k_147 : Cond.initialized RX14 ∈ mtb := mk_s1 14 rfl rfl
theorem k_148 : Cond.initialized RJx29ce0 ∈ mtb := mk_s1 15 rfl rfl
theorem k_149 : Cond.initialized RX12 ∈ mtb := mk_s1 16 rfl rfl
theorem k_151 : Cond.initialized RJ13 ∈ mtb := mk_s1 18 rfl rfl
theorem k_157 : Cond.initialized RJ6 ∈ mtb := mk_s1 24 rfl rfl
theorem k_179 : Cond.static yJ9_max_7cf53 ∈ mtb := mk_s1 46 rfl rfl
theorem k_180 : Cond.code yJ9_max_7cf53 cJ9_max_7cf53 2 (some Jvm.ClassFile.FieldType.int) ∈ mtb := mk_s1 47 rfl rfl
theorem k_181 : Cond.fieldLink RX7 15 "PondReader$Row" "items" "[I" ∈ mtb := mk_s1 48 rfl rfl
theorem k_182 : Cond.fieldLink RX7 21 "PondReader$Row" "size" "I" ∈ mtb := mk_s1 49 rfl rfl
theorem k_183 : Cond.fieldLinkNest RX2 66 "PondReader$Row" "size" "I" "PondReader" ∈ lw_tbl.filter mnest := mk_n1 50 rfl rfl
theorem k_184 : Cond.fieldLinkNest RX6 103 "PondReader$Row" "size" "I" "PondReader" ∈ lw_tbl.filter mnest := mk_n1 51 rfl rfl
theorem k_185 : Cond.fieldLinkNest RX8 43 "PondReader$Row" "size" "I" "PondReader" ∈ lw_tbl.filter mnest := mk_n1 52 rfl rfl
theorem k_186 : Cond.fieldLinkNest RX13 138 "PondReader$Row" "size" "I" "PondReader" ∈ lw_tbl.filter mnest := mk_n1 53 rfl rfl
theorem k_187 : Cond.fieldLinkNest RX9 213 "PondReader$Row" "size" "I" "PondReader" ∈ lw_tbl.filter mnest := mk_n1 54 rfl rfl
theorem k_203 : Cond.fieldLink RX1 15 "PondReader$Drops" "kinds" "[I" ∈ mtb := mk_s1 70 rfl rfl
theorem k_204 : Cond.fieldLinkNest RX6 81 "PondReader$Drops" "kinds" "[I" "PondReader" ∈ lw_tbl.filter mnest := mk_n1 71 rfl rfl
theorem k_205 : Cond.fieldLinkNest RX2 149 "PondReader$Drops" "kinds" "[I" "PondReader" ∈ lw_tbl.filter mnest := mk_n1 72 rfl rfl
theorem k_206 : Cond.fieldLink RX1 21 "PondReader$Drops" "cells" "[I" ∈ mtb := mk_s1 73 rfl rfl
theorem k_207 : Cond.fieldLinkNest RX6 84 "PondReader$Drops" "cells" "[I" "PondReader" ∈ lw_tbl.filter mnest := mk_n1 74 rfl rfl
theorem k_208 : Cond.fieldLinkNest RX2 151 "PondReader$Drops" "cells" "[I" "PondReader" ∈ lw_tbl.filter mnest := mk_n1 75 rfl rfl
theorem k_209 : Cond.fieldLink RX1 24 "PondReader$Drops" "steps" "[I" ∈ mtb := mk_s1 76 rfl rfl
theorem k_210 : Cond.fieldLinkNest RX6 86 "PondReader$Drops" "steps" "[I" "PondReader" ∈ lw_tbl.filter mnest := mk_n1 77 rfl rfl
theorem k_211 : Cond.fieldLinkNest RX2 153 "PondReader$Drops" "steps" "[I" "PondReader" ∈ lw_tbl.filter mnest := mk_n1 78 rfl rfl
theorem k_212 : Cond.fieldLink RX1 27 "PondReader$Drops" "size" "I" ∈ mtb := mk_s1 79 rfl rfl
theorem k_213 : Cond.fieldLinkNest RX6 75 "PondReader$Drops" "size" "I" "PondReader" ∈ lw_tbl.filter mnest := mk_n1 80 rfl rfl
theorem k_214 : Cond.fieldLinkNest RX11 68 "PondReader$Drops" "size" "I" "PondReader" ∈ lw_tbl.filter mnest := mk_n1 81 rfl rfl
theorem k_215 : Cond.fieldLinkNest RX2 148 "PondReader$Drops" "size" "I" "PondReader" ∈ lw_tbl.filter mnest := mk_n1 82 rfl rfl
theorem k_216 : Cond.fieldLinkNest RX13 317 "PondReader$Drops" "size" "I" "PondReader" ∈ lw_tbl.filter mnest := mk_n1 83 rfl rfl
theorem k_232 : Cond.fieldLink RX3 9 "PondReader$Law" "codes" "[I" ∈ mtb := mk_s1 99 rfl rfl
theorem k_233 : Cond.fieldLink RX3 15 "PondReader$Law" "numbers" "[I" ∈ mtb := mk_s1 100 rfl rfl
theorem k_234 : Cond.fieldLink RX3 18 "PondReader$Law" "stack" "[J" ∈ mtb := mk_s1 101 rfl rfl
theorem k_235 : Cond.fieldLink RX3 22 "PondReader$Law" "names" "[J" ∈ mtb := mk_s1 102 rfl rfl
theorem k_236 : Cond.fieldLink RX3 25 "PondReader$Law" "knots" "I" ∈ mtb := mk_s1 103 rfl rfl
theorem k_237 : Cond.fieldLinkNest RX13 318 "PondReader$Law" "knots" "I" "PondReader" ∈ lw_tbl.filter mnest := mk_n1 104 rfl rfl
theorem k_251 : Cond.instanceMethod yX5_clear ∈ mtb := mk_s1 118 rfl rfl
theorem k_252 : Cond.selects RX5 yX5_clear yX5_clear ∈ mtb := mk_s1 119 rfl rfl
theorem k_253 : Cond.code yX5_clear cX5_clear 2 none ∈ mtb := mk_s1 120 rfl rfl
theorem k_254 : Cond.methodLink RX5 91 yX7_clear ∈ mtb := mk_s1 121 rfl rfl
theorem k_255 : Cond.instanceMethod yX7_clear ∈ mtb := mk_s1 122 rfl rfl
theorem k_256 : Cond.selects RX7 yX7_clear yX7_clear ∈ mtb := mk_s1 123 rfl rfl
theorem k_257 : Cond.code yX7_clear cX7_clear 1 none ∈ mtb := mk_s1 124 rfl rfl
theorem k_258 : Cond.methodLink RX5 92 yX1_clear ∈ mtb := mk_s1 125 rfl rfl
theorem k_259 : Cond.instanceMethod yX1_clear ∈ mtb := mk_s1 126 rfl rfl
theorem k_260 : Cond.selects RX1 yX1_clear yX1_clear ∈ mtb := mk_s1 127 rfl rfl
theorem k_261 : Cond.code yX1_clear cX1_clear 1 none ∈ mtb := mk_s1 128 rfl rfl
theorem k_262 : Cond.methodLink RX5 93 yX3_clear ∈ mtb := mk_s1 129 rfl rfl
theorem k_263 : Cond.instanceMethod yX3_clear ∈ mtb := mk_s1 130 rfl rfl
theorem k_264 : Cond.selects RX3 yX3_clear yX3_clear ∈ mtb := mk_s1 131 rfl rfl
theorem k_265 : Cond.code yX3_clear cX3_clear 1 none ∈ mtb := mk_s1 132 rfl rfl
theorem k_266 : Cond.fieldLink RX5 68 "PondReader$Pond" "wide" "I" ∈ mtb := mk_s1 133 rfl rfl
theorem k_267 : Cond.fieldLinkNest RX9 170 "PondReader$Pond" "wide" "I" "PondReader" ∈ lw_tbl.filter mnest := mk_n1 134 rfl rfl
theorem k_268 : Cond.fieldLinkNest RX6 133 "PondReader$Pond" "wide" "I" "PondReader" ∈ lw_tbl.filter mnest := mk_n1 135 rfl rfl
theorem k_269 : Cond.fieldLinkNest RX13 311 "PondReader$Pond" "wide" "I" "PondReader" ∈ lw_tbl.filter mnest := mk_n1 136 rfl rfl
theorem k_270 : Cond.fieldLink RX5 72 "PondReader$Pond" "high" "I" ∈ mtb := mk_s1 137 rfl rfl
theorem k_271 : Cond.fieldLinkNest RX6 136 "PondReader$Pond" "high" "I" "PondReader" ∈ lw_tbl.filter mnest := mk_n1 138 rfl rfl
theorem k_272 : Cond.fieldLinkNest RX9 177 "PondReader$Pond" "high" "I" "PondReader" ∈ lw_tbl.filter mnest := mk_n1 139 rfl rfl
theorem k_273 : Cond.fieldLinkNest RX13 314 "PondReader$Pond" "high" "I" "PondReader" ∈ lw_tbl.filter mnest := mk_n1 140 rfl rfl
theorem k_274 : Cond.fieldLink RX5 75 "PondReader$Pond" "land" "J" ∈ mtb := mk_s1 141 rfl rfl
theorem k_275 : Cond.fieldLinkNest RX9 187 "PondReader$Pond" "land" "J" "PondReader" ∈ lw_tbl.filter mnest := mk_n1 142 rfl rfl
theorem k_276 : Cond.fieldLinkNest RX11 35 "PondReader$Pond" "reeds" "J" "PondReader" ∈ lw_tbl.filter mnest := mk_n1 143 rfl rfl
theorem k_277 : Cond.fieldLink RX5 79 "PondReader$Pond" "reeds" "J" ∈ mtb := mk_s1 144 rfl rfl
theorem k_278 : Cond.fieldLinkNest RX9 204 "PondReader$Pond" "reeds" "J" "PondReader" ∈ lw_tbl.filter mnest := mk_n1 145 rfl rfl
theorem k_279 : Cond.fieldLink RX5 14 "PondReader$Pond" "shores" "LPondReader$Row;" ∈ mtb := mk_s1 146 rfl rfl
theorem k_280 : Cond.fieldLinkNest RX6 97 "PondReader$Pond" "shores" "LPondReader$Row;" "PondReader" ∈ lw_tbl.filter mnest := mk_n1 147 rfl rfl
theorem k_281 : Cond.fieldLinkNest RX2 118 "PondReader$Pond" "shores" "LPondReader$Row;" "PondReader" ∈ lw_tbl.filter mnest := mk_n1 148 rfl rfl
theorem k_282 : Cond.fieldLinkNest RX9 116 "PondReader$Pond" "shores" "LPondReader$Row;" "PondReader" ∈ lw_tbl.filter mnest := mk_n1 149 rfl rfl
theorem k_283 : Cond.fieldLinkNest RX13 161 "PondReader$Pond" "shores" "LPondReader$Row;" "PondReader" ∈ lw_tbl.filter mnest := mk_n1 150 rfl rfl
theorem k_284 : Cond.fieldLink RX5 20 "PondReader$Pond" "mayShores" "[LPondReader$Row;" ∈ mtb := mk_s1 151 rfl rfl
theorem k_285 : Cond.fieldLink RX5 24 "PondReader$Pond" "mays" "LPondReader$Row;" ∈ mtb := mk_s1 152 rfl rfl
theorem k_286 : Cond.fieldLinkNest RX2 130 "PondReader$Pond" "mays" "LPondReader$Row;" "PondReader" ∈ lw_tbl.filter mnest := mk_n1 153 rfl rfl
theorem k_287 : Cond.fieldLinkNest RX13 120 "PondReader$Pond" "mays" "LPondReader$Row;" "PondReader" ∈ lw_tbl.filter mnest := mk_n1 154 rfl rfl
theorem k_288 : Cond.fieldLinkNest RX9 265 "PondReader$Pond" "mays" "LPondReader$Row;" "PondReader" ∈ lw_tbl.filter mnest := mk_n1 155 rfl rfl
theorem k_289 : Cond.fieldLink RX5 27 "PondReader$Pond" "kinds" "LPondReader$Row;" ∈ mtb := mk_s1 156 rfl rfl
theorem k_290 : Cond.fieldLinkNest RX2 60 "PondReader$Pond" "kinds" "LPondReader$Row;" "PondReader" ∈ lw_tbl.filter mnest := mk_n1 157 rfl rfl
theorem k_291 : Cond.fieldLinkNest RX13 104 "PondReader$Pond" "kinds" "LPondReader$Row;" "PondReader" ∈ lw_tbl.filter mnest := mk_n1 158 rfl rfl
theorem k_292 : Cond.fieldLinkNest RX9 210 "PondReader$Pond" "kinds" "LPondReader$Row;" "PondReader" ∈ lw_tbl.filter mnest := mk_n1 159 rfl rfl
theorem k_293 : Cond.fieldLink RX5 30 "PondReader$Pond" "rises" "[LPondReader$Row;" ∈ mtb := mk_s1 160 rfl rfl
theorem k_294 : Cond.fieldLink RX5 33 "PondReader$Pond" "odds" "LPondReader$Row;" ∈ mtb := mk_s1 161 rfl rfl
theorem k_295 : Cond.fieldLinkNest RX2 76 "PondReader$Pond" "odds" "LPondReader$Row;" "PondReader" ∈ lw_tbl.filter mnest := mk_n1 162 rfl rfl
theorem k_297 : Cond.fieldLinkNest RX9 234 "PondReader$Pond" "odds" "LPondReader$Row;" "PondReader" ∈ lw_tbl.filter mnest := mk_n1 164 rfl rfl
theorem k_298 : Cond.fieldLink RX5 36 "PondReader$Pond" "corks" "LPondReader$Row;" ∈ mtb := mk_s1 165 rfl rfl
theorem k_299 : Cond.fieldLinkNest RX9 136 "PondReader$Pond" "corks" "LPondReader$Row;" "PondReader" ∈ lw_tbl.filter mnest := mk_n1 166 rfl rfl
theorem k_300 : Cond.fieldLinkNest RX13 114 "PondReader$Pond" "corks" "LPondReader$Row;" "PondReader" ∈ lw_tbl.filter mnest := mk_n1 167 rfl rfl
theorem k_301 : Cond.fieldLinkNest RX2 158 "PondReader$Pond" "corks" "LPondReader$Row;" "PondReader" ∈ lw_tbl.filter mnest := mk_n1 168 rfl rfl
theorem k_302 : Cond.fieldLink RX5 39 "PondReader$Pond" "corkCells" "LPondReader$Row;" ∈ mtb := mk_s1 169 rfl rfl
theorem k_303 : Cond.fieldLinkNest RX2 109 "PondReader$Pond" "corkCells" "LPondReader$Row;" "PondReader" ∈ lw_tbl.filter mnest := mk_n1 170 rfl rfl
theorem k_304 : Cond.fieldLinkNest RX9 139 "PondReader$Pond" "corkCells" "LPondReader$Row;" "PondReader" ∈ lw_tbl.filter mnest := mk_n1 171 rfl rfl
theorem k_305 : Cond.fieldLinkNest RX13 164 "PondReader$Pond" "corkCells" "LPondReader$Row;" "PondReader" ∈ lw_tbl.filter mnest := mk_n1 172 rfl rfl
theorem k_306 : Cond.fieldLink RX5 42 "PondReader$Pond" "skaters" "LPondReader$Row;" ∈ mtb := mk_s1 173 rfl rfl
theorem k_307 : Cond.fieldLinkNest RX8 37 "PondReader$Pond" "skaters" "LPondReader$Row;" "PondReader" ∈ lw_tbl.filter mnest := mk_n1 174 rfl rfl
theorem k_308 : Cond.fieldLinkNest RX9 146 "PondReader$Pond" "skaters" "LPondReader$Row;" "PondReader" ∈ lw_tbl.filter mnest := mk_n1 175 rfl rfl
theorem k_309 : Cond.fieldLinkNest RX13 117 "PondReader$Pond" "skaters" "LPondReader$Row;" "PondReader" ∈ lw_tbl.filter mnest := mk_n1 176 rfl rfl
theorem k_310 : Cond.fieldLink RX5 45 "PondReader$Pond" "skaterCells" "LPondReader$Row;" ∈ mtb := mk_s1 177 rfl rfl
theorem k_311 : Cond.fieldLinkNest RX9 149 "PondReader$Pond" "skaterCells" "LPondReader$Row;" "PondReader" ∈ lw_tbl.filter mnest := mk_n1 178 rfl rfl
theorem k_312 : Cond.fieldLinkNest RX8 79 "PondReader$Pond" "skaterCells" "LPondReader$Row;" "PondReader" ∈ lw_tbl.filter mnest := mk_n1 179 rfl rfl
theorem k_313 : Cond.fieldLinkNest RX13 220 "PondReader$Pond" "skaterCells" "LPondReader$Row;" "PondReader" ∈ lw_tbl.filter mnest := mk_n1 180 rfl rfl
theorem k_314 : Cond.fieldLink RX5 51 "PondReader$Pond" "drops" "LPondReader$Drops;" ∈ mtb := mk_s1 181 rfl rfl
theorem k_315 : Cond.fieldLinkNest RX11 42 "PondReader$Pond" "drops" "LPondReader$Drops;" "PondReader" ∈ lw_tbl.filter mnest := mk_n1 182 rfl rfl
theorem k_316 : Cond.fieldLinkNest RX9 237 "PondReader$Pond" "drops" "LPondReader$Drops;" "PondReader" ∈ lw_tbl.filter mnest := mk_n1 183 rfl rfl
theorem k_317 : Cond.fieldLink RX5 58 "PondReader$Pond" "law" "LPondReader$Law;" ∈ mtb := mk_s1 184 rfl rfl
theorem k_318 : Cond.fieldLinkNest RX8 98 "PondReader$Pond" "law" "LPondReader$Law;" "PondReader" ∈ lw_tbl.filter mnest := mk_n1 185 rfl rfl
theorem k_319 : Cond.fieldLinkNest RX13 208 "PondReader$Pond" "law" "LPondReader$Law;" "PondReader" ∈ lw_tbl.filter mnest := mk_n1 186 rfl rfl
theorem k_320 : Cond.fieldLinkNest RX9 274 "PondReader$Pond" "law" "LPondReader$Law;" "PondReader" ∈ lw_tbl.filter mnest := mk_n1 187 rfl rfl
theorem k_321 : Cond.fieldLink RX5 62 "PondReader$Pond" "nothing" "LPondReader$Row;" ∈ mtb := mk_s1 188 rfl rfl
theorem k_322 : Cond.fieldLink RX5 82 "PondReader$Pond" "loss" "I" ∈ mtb := mk_s1 189 rfl rfl
theorem k_323 : Cond.fieldLinkNest RX6 157 "PondReader$Pond" "loss" "I" "PondReader" ∈ lw_tbl.filter mnest := mk_n1 190 rfl rfl
theorem k_324 : Cond.fieldLinkNest RX9 256 "PondReader$Pond" "loss" "I" "PondReader" ∈ lw_tbl.filter mnest := mk_n1 191 rfl rfl
theorem k_325 : Cond.fieldLink RX5 85 "PondReader$Pond" "thick" "I" ∈ mtb := mk_s1 192 rfl rfl
theorem k_326 : Cond.fieldLinkNest RX6 163 "PondReader$Pond" "thick" "I" "PondReader" ∈ lw_tbl.filter mnest := mk_n1 193 rfl rfl
theorem k_327 : Cond.fieldLinkNest RX9 259 "PondReader$Pond" "thick" "I" "PondReader" ∈ lw_tbl.filter mnest := mk_n1 194 rfl rfl
theorem k_328 : Cond.fieldLink RX5 88 "PondReader$Pond" "sent" "I" ∈ mtb := mk_s1 195 rfl rfl
theorem k_329 : Cond.fieldLinkNest RX6 166 "PondReader$Pond" "sent" "I" "PondReader" ∈ lw_tbl.filter mnest := mk_n1 196 rfl rfl
theorem k_330 : Cond.fieldLinkNest RX9 262 "PondReader$Pond" "sent" "I" "PondReader" ∈ lw_tbl.filter mnest := mk_n1 197 rfl rfl
theorem k_384 : Cond.fieldLink RX10 21 "PondReader$Tokens" "bytes" "[B" ∈ mtb := mk_s2 11 rfl rfl
theorem k_385 : Cond.fieldLink RX10 9 "PondReader$Tokens" "types" "[I" ∈ mtb := mk_s2 12 rfl rfl
theorem k_386 : Cond.fieldLink RX10 15 "PondReader$Tokens" "places" "[I" ∈ mtb := mk_s2 13 rfl rfl
theorem k_387 : Cond.fieldLink RX10 18 "PondReader$Tokens" "values" "[I" ∈ mtb := mk_s2 14 rfl rfl
theorem k_388 : Cond.fieldLink RX10 41 "PondReader$Tokens" "size" "I" ∈ mtb := mk_s2 15 rfl rfl
theorem k_389 : Cond.fieldLink RX10 34 "PondReader$Tokens" "length" "I" ∈ mtb := mk_s2 16 rfl rfl
theorem k_390 : Cond.fieldLink RX10 38 "PondReader$Tokens" "next" "I" ∈ mtb := mk_s2 17 rfl rfl
theorem k_391 : Cond.fieldLink RX10 44 "PondReader$Tokens" "at" "I" ∈ mtb := mk_s2 18 rfl rfl
theorem k_392 : Cond.fieldLinkNest RX9 66 "PondReader$Tokens" "type" "I" "PondReader" ∈ lw_tbl.filter mnest := mk_n2 19 rfl rfl
theorem k_393 : Cond.fieldLink RX10 71 "PondReader$Tokens" "type" "I" ∈ mtb := mk_s2 20 rfl rfl
theorem k_394 : Cond.fieldLinkNest RX9 76 "PondReader$Tokens" "place" "I" "PondReader" ∈ lw_tbl.filter mnest := mk_n2 21 rfl rfl
theorem k_395 : Cond.fieldLink RX10 74 "PondReader$Tokens" "place" "I" ∈ mtb := mk_s2 22 rfl rfl
theorem k_396 : Cond.fieldLink RX10 77 "PondReader$Tokens" "value" "I" ∈ mtb := mk_s2 23 rfl rfl
theorem k_397 : Cond.fieldLinkNest RX9 89 "PondReader$Tokens" "value" "I" "PondReader" ∈ lw_tbl.filter mnest := mk_n2 24 rfl rfl
theorem k_421 : Cond.fieldLink RX9 27 "PondReader$TextReader" "tokens" "LPondReader$Tokens;" ∈ mtb := mk_s2 48 rfl rfl
theorem k_422 : Cond.fieldLink RX9 31 "PondReader$TextReader" "pond" "LPondReader$Pond;" ∈ mtb := mk_s2 49 rfl rfl
theorem k_423 : Cond.fieldLink RX9 40 "PondReader$TextReader" "faultNumber" "I" ∈ mtb := mk_s2 50 rfl rfl
theorem k_424 : Cond.fieldLinkNest RX13 98 "PondReader$TextReader" "faultNumber" "I" "PondReader" ∈ lw_tbl.filter mnest := mk_n2 51 rfl rfl
theorem k_425 : Cond.fieldLink RX9 9 "PondReader$TextReader" "faultPlace" "I" ∈ mtb := mk_s2 52 rfl rfl
theorem k_426 : Cond.fieldLinkNest RX13 101 "PondReader$TextReader" "faultPlace" "I" "PondReader" ∈ lw_tbl.filter mnest := mk_n2 53 rfl rfl
theorem k_427 : Cond.fieldLink RX9 43 "PondReader$TextReader" "lines" "I" ∈ mtb := mk_s2 54 rfl rfl
theorem k_428 : Cond.fieldLinkNest RX13 95 "PondReader$TextReader" "lines" "I" "PondReader" ∈ lw_tbl.filter mnest := mk_n2 55 rfl rfl
theorem k_429 : Cond.fieldLink RX9 46 "PondReader$TextReader" "pondTold" "Z" ∈ mtb := mk_s2 56 rfl rfl
theorem k_430 : Cond.fieldLink RX9 50 "PondReader$TextReader" "lossTold" "Z" ∈ mtb := mk_s2 57 rfl rfl
theorem k_431 : Cond.fieldLink RX9 53 "PondReader$TextReader" "thickTold" "Z" ∈ mtb := mk_s2 58 rfl rfl
theorem k_432 : Cond.fieldLink RX9 56 "PondReader$TextReader" "sentTold" "Z" ∈ mtb := mk_s2 59 rfl rfl
theorem k_433 : Cond.fieldLink RX9 59 "PondReader$TextReader" "cellsTold" "Z" ∈ mtb := mk_s2 60 rfl rfl
theorem k_434 : Cond.fieldLink RX9 15 "PondReader$TextReader" "waiting" "[I" ∈ mtb := mk_s2 61 rfl rfl
theorem k_435 : Cond.fieldLink RX9 19 "PondReader$TextReader" "waitingRanks" "[I" ∈ mtb := mk_s2 62 rfl rfl
theorem k_436 : Cond.fieldLink RX9 283 "PondReader$TextReader" "waitingSize" "I" ∈ mtb := mk_s2 63 rfl rfl
theorem k_437 : Cond.fieldLink RX9 286 "PondReader$TextReader" "open" "I" ∈ mtb := mk_s2 64 rfl rfl
theorem k_438 : Cond.fieldLink RX9 289 "PondReader$TextReader" "knotsSeen" "I" ∈ mtb := mk_s2 65 rfl rfl
theorem k_439 : Cond.fieldLink RX9 292 "PondReader$TextReader" "operandStands" "Z" ∈ mtb := mk_s2 66 rfl rfl
theorem k_482 : Cond.instanceMethod yX11_begin ∈ mtb := mk_s2 109 rfl rfl
theorem k_483 : Cond.selects RX11 yX11_begin yX11_begin ∈ mtb := mk_s2 110 rfl rfl
theorem k_484 : Cond.code yX11_begin cX11_begin 2 none ∈ mtb := mk_s2 111 rfl rfl
theorem k_485 : Cond.methodLink RX11 43 yX1_copyOf ∈ mtb := mk_s2 112 rfl rfl
theorem k_486 : Cond.instanceMethod yX1_copyOf ∈ mtb := mk_s2 113 rfl rfl
theorem k_487 : Cond.selects RX1 yX1_copyOf yX1_copyOf ∈ mtb := mk_s2 114 rfl rfl
theorem k_488 : Cond.code yX1_copyOf cX1_copyOf 3 none ∈ mtb := mk_s2 115 rfl rfl
theorem k_489 : Cond.methodLink RX1 31 yX1_clear ∈ mtb := mk_s2 116 rfl rfl
theorem k_490 : Cond.methodLink RX1 34 yX1_add ∈ mtb := mk_s2 117 rfl rfl
theorem k_491 : Cond.instanceMethod yX1_add ∈ mtb := mk_s2 118 rfl rfl
theorem k_492 : Cond.selects RX1 yX1_add yX1_add ∈ mtb := mk_s2 119 rfl rfl
theorem k_493 : Cond.code yX1_add cX1_add 4 none ∈ mtb := mk_s2 120 rfl rfl
theorem k_494 : Cond.fieldLink RX11 31 "PondReader$Water" "pond" "LPondReader$Pond;" ∈ mtb := mk_s2 121 rfl rfl
theorem k_495 : Cond.fieldLinkNest RX6 52 "PondReader$Water" "pond" "LPondReader$Pond;" "PondReader" ∈ lw_tbl.filter mnest := mk_n2 122 rfl rfl
theorem k_496 : Cond.fieldLinkNest RX2 54 "PondReader$Water" "pond" "LPondReader$Pond;" "PondReader" ∈ lw_tbl.filter mnest := mk_n2 123 rfl rfl
theorem k_497 : Cond.fieldLinkNest RX13 86 "PondReader$Water" "pond" "LPondReader$Pond;" "PondReader" ∈ lw_tbl.filter mnest := mk_n2 124 rfl rfl
theorem k_498 : Cond.fieldLinkNest RX8 31 "PondReader$Water" "pond" "LPondReader$Pond;" "PondReader" ∈ lw_tbl.filter mnest := mk_n2 125 rfl rfl
theorem k_499 : Cond.fieldLink RX11 41 "PondReader$Water" "reeds" "J" ∈ mtb := mk_s2 126 rfl rfl
theorem k_500 : Cond.fieldLinkNest RX13 328 "PondReader$Water" "reeds" "J" "PondReader" ∈ lw_tbl.filter mnest := mk_n2 127 rfl rfl
theorem k_501 : Cond.fieldLink RX11 14 "PondReader$Water" "drops" "LPondReader$Drops;" ∈ mtb := mk_s2 128 rfl rfl
theorem k_502 : Cond.fieldLinkNest RX6 71 "PondReader$Water" "drops" "LPondReader$Drops;" "PondReader" ∈ lw_tbl.filter mnest := mk_n2 129 rfl rfl
theorem k_503 : Cond.fieldLinkNest RX2 145 "PondReader$Water" "drops" "LPondReader$Drops;" "PondReader" ∈ lw_tbl.filter mnest := mk_n2 130 rfl rfl
theorem k_504 : Cond.fieldLinkNest RX13 167 "PondReader$Water" "drops" "LPondReader$Drops;" "PondReader" ∈ lw_tbl.filter mnest := mk_n2 131 rfl rfl
theorem k_505 : Cond.fieldLink RX11 20 "PondReader$Water" "imageDrops" "LPondReader$Drops;" ∈ mtb := mk_s2 132 rfl rfl
theorem k_506 : Cond.fieldLink RX11 80 "PondReader$Water" "imageReeds" "J" ∈ mtb := mk_s2 133 rfl rfl
theorem k_507 : Cond.fieldLink RX11 47 "PondReader$Water" "imageKept" "Z" ∈ mtb := mk_s2 134 rfl rfl
theorem k_508 : Cond.fieldLink RX11 23 "PondReader$Water" "undos" "[I" ∈ mtb := mk_s2 135 rfl rfl
theorem k_509 : Cond.fieldLink RX11 51 "PondReader$Water" "undoSize" "I" ∈ mtb := mk_s2 136 rfl rfl
theorem k_510 : Cond.fieldLinkNest RX13 325 "PondReader$Water" "undoSize" "I" "PondReader" ∈ lw_tbl.filter mnest := mk_n2 137 rfl rfl
theorem k_511 : Cond.fieldLinkNest RX6 43 "PondReader$Water" "waysStale" "Z" "PondReader" ∈ lw_tbl.filter mnest := mk_n2 138 rfl rfl
theorem k_512 : Cond.fieldLink RX11 55 "PondReader$Water" "waysStale" "Z" ∈ mtb := mk_s2 139 rfl rfl
theorem k_513 : Cond.fieldLink RX11 58 "PondReader$Water" "sumsStale" "Z" ∈ mtb := mk_s2 140 rfl rfl
theorem k_514 : Cond.fieldLinkNest RX6 68 "PondReader$Water" "sumsStale" "Z" "PondReader" ∈ lw_tbl.filter mnest := mk_n2 141 rfl rfl
theorem k_544 : Cond.fieldLink RX4 9 "PondReader$Notes" "corks" "[I" ∈ mtb := mk_s2 171 rfl rfl
theorem k_545 : Cond.fieldLinkNest RX2 112 "PondReader$Notes" "corks" "[I" "PondReader" ∈ lw_tbl.filter mnest := mk_n2 172 rfl rfl
theorem k_546 : Cond.fieldLink RX4 15 "PondReader$Notes" "steps" "[I" ∈ mtb := mk_s2 173 rfl rfl
theorem k_547 : Cond.fieldLinkNest RX2 115 "PondReader$Notes" "steps" "[I" "PondReader" ∈ lw_tbl.filter mnest := mk_n2 174 rfl rfl
theorem k_548 : Cond.fieldLink RX4 18 "PondReader$Notes" "rises" "[I" ∈ mtb := mk_s2 175 rfl rfl
theorem k_549 : Cond.fieldLinkNest RX2 127 "PondReader$Notes" "rises" "[I" "PondReader" ∈ lw_tbl.filter mnest := mk_n2 176 rfl rfl
theorem k_550 : Cond.fieldLink RX4 21 "PondReader$Notes" "strikes" "[I" ∈ mtb := mk_s2 177 rfl rfl
theorem k_551 : Cond.fieldLink RX4 24 "PondReader$Notes" "struck" "[Z" ∈ mtb := mk_s2 178 rfl rfl
theorem k_552 : Cond.fieldLink RX4 33 "PondReader$Notes" "sights" "LPondReader$Row;" ∈ mtb := mk_s2 179 rfl rfl
theorem k_553 : Cond.fieldLink RX4 41 "PondReader$Notes" "size" "I" ∈ mtb := mk_s2 180 rfl rfl
theorem k_554 : Cond.fieldLinkNest RX13 321 "PondReader$Notes" "size" "I" "PondReader" ∈ lw_tbl.filter mnest := mk_n2 181 rfl rfl
theorem k_555 : Cond.fieldLink RX4 37 "PondReader$Notes" "limit" "I" ∈ mtb := mk_s2 182 rfl rfl
theorem k_582 : Cond.fieldLink RX6 39 "PondReader$Ripples" "water" "LPondReader$Water;" ∈ mtb := mk_s2 209 rfl rfl
theorem k_583 : Cond.fieldLink RX6 9 "PondReader$Ripples" "near" "[I" ∈ mtb := mk_s2 210 rfl rfl
theorem k_584 : Cond.fieldLink RX6 15 "PondReader$Ripples" "fars" "[I" ∈ mtb := mk_s2 211 rfl rfl
theorem k_585 : Cond.fieldLink RX6 18 "PondReader$Ripples" "weaks" "[I" ∈ mtb := mk_s2 212 rfl rfl
theorem k_586 : Cond.fieldLink RX6 21 "PondReader$Ripples" "queue" "[I" ∈ mtb := mk_s2 213 rfl rfl
theorem k_587 : Cond.fieldLink RX6 24 "PondReader$Ripples" "sums" "[I" ∈ mtb := mk_s2 214 rfl rfl
theorem k_588 : Cond.fieldLink RX6 32 "PondReader$Ripples" "poured" "LPondReader$Row;" ∈ mtb := mk_s2 215 rfl rfl
theorem k_589 : Cond.fieldLink RX6 36 "PondReader$Ripples" "sentBack" "LPondReader$Row;" ∈ mtb := mk_s2 216 rfl rfl
theorem k_613 : Cond.fieldLink RX8 15 "PondReader$Skating" "water" "LPondReader$Water;" ∈ mtb := mk_s3 0 rfl rfl
theorem k_614 : Cond.fieldLink RX8 19 "PondReader$Skating" "ripples" "LPondReader$Ripples;" ∈ mtb := mk_s3 1 rfl rfl
theorem k_615 : Cond.fieldLink RX8 9 "PondReader$Skating" "path" "[I" ∈ mtb := mk_s3 2 rfl rfl
theorem k_616 : Cond.fieldLink RX8 61 "PondReader$Skating" "lieStep" "I" ∈ mtb := mk_s3 3 rfl rfl
theorem k_617 : Cond.fieldLinkNest RX13 240 "PondReader$Skating" "lieStep" "I" "PondReader" ∈ lw_tbl.filter mnest := mk_n3 4 rfl rfl
theorem k_618 : Cond.fieldLink RX8 64 "PondReader$Skating" "lieCell" "I" ∈ mtb := mk_s3 5 rfl rfl
theorem k_619 : Cond.fieldLinkNest RX13 243 "PondReader$Skating" "lieCell" "I" "PondReader" ∈ lw_tbl.filter mnest := mk_n3 6 rfl rfl
theorem k_639 : Cond.fieldLink RX2 33 "PondReader$Guesses" "water" "LPondReader$Water;" ∈ mtb := mk_s3 26 rfl rfl
theorem k_640 : Cond.fieldLink RX2 37 "PondReader$Guesses" "ripples" "LPondReader$Ripples;" ∈ mtb := mk_s3 27 rfl rfl
theorem k_641 : Cond.fieldLink RX2 41 "PondReader$Guesses" "notes" "LPondReader$Notes;" ∈ mtb := mk_s3 28 rfl rfl
theorem k_642 : Cond.fieldLink RX2 14 "PondReader$Guesses" "taleAsked" "LPondReader$Drops;" ∈ mtb := mk_s3 29 rfl rfl
theorem k_643 : Cond.fieldLinkNest RX13 272 "PondReader$Guesses" "taleAsked" "LPondReader$Drops;" "PondReader" ∈ lw_tbl.filter mnest := mk_n3 30 rfl rfl
theorem k_644 : Cond.fieldLink RX2 20 "PondReader$Guesses" "taleLikeliest" "LPondReader$Drops;" ∈ mtb := mk_s3 31 rfl rfl
theorem k_645 : Cond.fieldLinkNest RX13 275 "PondReader$Guesses" "taleLikeliest" "LPondReader$Drops;" "PondReader" ∈ lw_tbl.filter mnest := mk_n3 32 rfl rfl
theorem k_646 : Cond.fieldLink RX2 23 "PondReader$Guesses" "shown" "[I" ∈ mtb := mk_s3 33 rfl rfl
theorem k_647 : Cond.fieldLink RX2 27 "PondReader$Guesses" "tellers" "[I" ∈ mtb := mk_s3 34 rfl rfl
theorem k_648 : Cond.fieldLink RX2 30 "PondReader$Guesses" "compared" "LPondReader$Drops;" ∈ mtb := mk_s3 35 rfl rfl
theorem k_649 : Cond.fieldLink RX2 184 "PondReader$Guesses" "nearestCell" "I" ∈ mtb := mk_s3 36 rfl rfl
theorem k_650 : Cond.fieldLinkNest RX13 289 "PondReader$Guesses" "nearestCell" "I" "PondReader" ∈ lw_tbl.filter mnest := mk_n3 37 rfl rfl
theorem k_651 : Cond.fieldLink RX2 187 "PondReader$Guesses" "nearestSum" "I" ∈ mtb := mk_s3 38 rfl rfl
theorem k_652 : Cond.fieldLinkNest RX13 292 "PondReader$Guesses" "nearestSum" "I" "PondReader" ∈ lw_tbl.filter mnest := mk_n3 39 rfl rfl
theorem k_653 : Cond.fieldLink RX2 196 "PondReader$Guesses" "drawn" "J" ∈ mtb := mk_s3 40 rfl rfl
theorem k_677 : Cond.fieldLink RX13 11 "PondReader" "tape" "[B" ∈ mtb := mk_s3 64 rfl rfl
theorem k_678 : Cond.fieldLink RX13 74 "PondReader" "tapeLength" "I" ∈ mtb := mk_s3 65 rfl rfl
theorem k_679 : Cond.fieldLink RX13 18 "PondReader" "spare" "LPondReader$Pond;" ∈ mtb := mk_s3 66 rfl rfl
theorem k_680 : Cond.fieldLink RX13 27 "PondReader" "reader" "LPondReader$TextReader;" ∈ mtb := mk_s3 67 rfl rfl
theorem k_681 : Cond.fieldLink RX13 36 "PondReader" "water" "LPondReader$Water;" ∈ mtb := mk_s3 68 rfl rfl
theorem k_682 : Cond.fieldLink RX13 43 "PondReader" "notes" "LPondReader$Notes;" ∈ mtb := mk_s3 69 rfl rfl
theorem k_683 : Cond.fieldLink RX13 52 "PondReader" "ripples" "LPondReader$Ripples;" ∈ mtb := mk_s3 70 rfl rfl
theorem k_684 : Cond.fieldLink RX13 61 "PondReader" "skating" "LPondReader$Skating;" ∈ mtb := mk_s3 71 rfl rfl
theorem k_685 : Cond.fieldLink RX13 70 "PondReader" "guesses" "LPondReader$Guesses;" ∈ mtb := mk_s3 72 rfl rfl
theorem k_709 : Cond.methodLink RX13 78 yX13_putBytes ∈ mtb := mk_s3 96 rfl rfl
theorem k_711 : Cond.instanceMethod yX13_putBytes ∈ mtb := mk_s3 98 rfl rfl
theorem k_712 : Cond.code yX13_putBytes cX13_putBytes 3 none ∈ mtb := mk_s3 99 rfl rfl
theorem k_717 : Cond.methodLink RX13 82 yX9_read ∈ mtb := mk_s3 104 rfl rfl
theorem k_718 : Cond.instanceMethod yX9_read ∈ mtb := mk_s3 105 rfl rfl
theorem k_719 : Cond.selects RX9 yX9_read yX9_read ∈ mtb := mk_s3 106 rfl rfl
theorem k_720 : Cond.code yX9_read cX9_read 4 (some Jvm.ClassFile.FieldType.boolean) ∈ mtb := mk_s3 107 rfl rfl
theorem k_721 : Cond.methodLink RX9 35 yX5_clear ∈ mtb := mk_s3 108 rfl rfl
theorem k_722 : Cond.methodLink RX9 62 yX10_scan ∈ mtb := mk_s3 109 rfl rfl
theorem k_723 : Cond.instanceMethod yX10_scan ∈ mtb := mk_s3 110 rfl rfl
theorem k_724 : Cond.selects RX10 yX10_scan yX10_scan ∈ mtb := mk_s3 111 rfl rfl
theorem k_725 : Cond.code yX10_scan cX10_scan 4 none ∈ mtb := mk_s3 112 rfl rfl
theorem k_726 : Cond.methodLink RX10 25 yJ9_min_7cf53 ∈ mtb := mk_s3 113 rfl rfl
theorem k_727 : Cond.static yJ9_min_7cf53 ∈ mtb := mk_s3 114 rfl rfl
theorem k_728 : Cond.code yJ9_min_7cf53 cJ9_min_7cf53 2 (some Jvm.ClassFile.FieldType.int) ∈ mtb := mk_s3 115 rfl rfl
theorem k_729 : Cond.methodLink RX10 31 yJ9_max_7cf53 ∈ mtb := mk_s3 116 rfl rfl
theorem k_730 : Cond.methodLink RX10 47 yX10_byteAt ∈ mtb := mk_s3 117 rfl rfl
theorem k_732 : Cond.instanceMethod yX10_byteAt ∈ mtb := mk_s3 119 rfl rfl
theorem k_733 : Cond.code yX10_byteAt cX10_byteAt 2 (some Jvm.ClassFile.FieldType.int) ∈ mtb := mk_s3 120 rfl rfl
theorem k_734 : Cond.methodLink RX10 51 yX10_isLetter ∈ mtb := mk_s3 121 rfl rfl
theorem k_735 : Cond.static yX10_isLetter ∈ mtb := mk_s3 122 rfl rfl
theorem k_736 : Cond.code yX10_isLetter cX10_isLetter 1 (some Jvm.ClassFile.FieldType.boolean) ∈ mtb := mk_s3 123 rfl rfl
theorem k_737 : Cond.methodLink RX10 55 yX10_scanWord ∈ mtb := mk_s3 124 rfl rfl
theorem k_739 : Cond.instanceMethod yX10_scanWord ∈ mtb := mk_s3 126 rfl rfl
theorem k_740 : Cond.code yX10_scanWord cX10_scanWord 4 none ∈ mtb := mk_s3 127 rfl rfl
theorem k_741 : Cond.methodLinkNest RX10 85 yX12_of "PondReader" ∈ lw_tbl.filter mnest := mk_n3 128 rfl rfl
theorem k_742 : Cond.static yX12_of ∈ mtb := mk_s3 129 rfl rfl
theorem k_743 : Cond.code yX12_of cX12_of 2 (some (Jvm.ClassFile.FieldType.object "PondReader$Word")) ∈ mtb := mk_s3 130 rfl rfl
theorem k_744 : Cond.fieldLink RX12 112 "PondReader$Word" "ALL" "[LPondReader$Word;" ∈ mtb := mk_s3 131 rfl rfl
theorem k_746 : Cond.methodLink RX10 89 yX10_put ∈ mtb := mk_s3 133 rfl rfl
theorem k_748 : Cond.instanceMethod yX10_put ∈ mtb := mk_s3 135 rfl rfl
theorem k_749 : Cond.code yX10_put cX10_put 4 none ∈ mtb := mk_s3 136 rfl rfl
theorem k_750 : Cond.methodLink RX10 58 yX10_isDigit ∈ mtb := mk_s3 137 rfl rfl
theorem k_751 : Cond.static yX10_isDigit ∈ mtb := mk_s3 138 rfl rfl
theorem k_752 : Cond.code yX10_isDigit cX10_isDigit 1 (some Jvm.ClassFile.FieldType.boolean) ∈ mtb := mk_s3 139 rfl rfl
theorem k_753 : Cond.methodLink RX10 61 yX10_scanNumber ∈ mtb := mk_s3 140 rfl rfl
theorem k_755 : Cond.instanceMethod yX10_scanNumber ∈ mtb := mk_s3 142 rfl rfl
theorem k_756 : Cond.code yX10_scanNumber cX10_scanNumber 3 none ∈ mtb := mk_s3 143 rfl rfl
theorem k_757 : Cond.constant RX10 93 (Int32.ofInt 1000000) ∈ mtb := mk_s3 144 rfl rfl
theorem k_758 : Cond.methodLink RX10 64 yX10_scanSign ∈ mtb := mk_s3 145 rfl rfl
theorem k_760 : Cond.instanceMethod yX10_scanSign ∈ mtb := mk_s3 147 rfl rfl
theorem k_761 : Cond.code yX10_scanSign cX10_scanSign 5 none ∈ mtb := mk_s3 148 rfl rfl
theorem k_762 : Cond.methodLink RX10 94 yX10_codeOf ∈ mtb := mk_s3 149 rfl rfl
theorem k_763 : Cond.static yX10_codeOf ∈ mtb := mk_s3 150 rfl rfl
theorem k_764 : Cond.code yX10_codeOf cX10_codeOf 1 (some Jvm.ClassFile.FieldType.int) ∈ mtb := mk_s3 151 rfl rfl
theorem k_765 : Cond.methodLink RX10 68 yX10_advance ∈ mtb := mk_s3 152 rfl rfl
theorem k_766 : Cond.instanceMethod yX10_advance ∈ mtb := mk_s3 153 rfl rfl
theorem k_767 : Cond.selects RX10 yX10_advance yX10_advance ∈ mtb := mk_s3 154 rfl rfl
theorem k_768 : Cond.code yX10_advance cX10_advance 2 none ∈ mtb := mk_s3 155 rfl rfl
theorem k_769 : Cond.methodLink RX9 69 yX9_readLine ∈ mtb := mk_s3 156 rfl rfl
theorem k_771 : Cond.instanceMethod yX9_readLine ∈ mtb := mk_s3 158 rfl rfl
theorem k_772 : Cond.code yX9_readLine cX9_readLine 2 (some Jvm.ClassFile.FieldType.boolean) ∈ mtb := mk_s3 159 rfl rfl
theorem k_773 : Cond.methodLinkNest RX9 92 yX12_of "PondReader" ∈ lw_tbl.filter mnest := mk_n3 160 rfl rfl
theorem k_774 : Cond.methodLink RX9 83 yX9_refuse ∈ mtb := mk_s3 161 rfl rfl
theorem k_776 : Cond.instanceMethod yX9_refuse ∈ mtb := mk_s3 163 rfl rfl
theorem k_777 : Cond.code yX9_refuse cX9_refuse 2 (some Jvm.ClassFile.FieldType.boolean) ∈ mtb := mk_s3 164 rfl rfl
theorem k_778 : Cond.fieldLink RX9 98 "PondReader$1" "$SwitchMap$PondReader$Word" "[I" ∈ mtb := mk_s3 165 rfl rfl
theorem k_780 : Cond.methodLink RX9 103 (⟨"PondReader$Word", "ordinal", "()I"⟩ : MethodName) ∈ mtb := mk_s3 167 rfl rfl
theorem k_781 : Cond.sameMethod "PondReader$Word" "java/lang/Enum" "ordinal" "()I" ∈ mtb := mk_s3 168 rfl rfl
theorem k_783 : Cond.selects RX12 (⟨"PondReader$Word", "ordinal", "()I"⟩ : MethodName) yJx29ce0_ordinal_8abf5 ∈ mtb := mk_s3 170 rfl rfl
theorem k_784 : Cond.instanceMethod yJx29ce0_ordinal_8abf5 ∈ mtb := mk_s3 171 rfl rfl
theorem k_785 : Cond.code yJx29ce0_ordinal_8abf5 cJx29ce0_ordinal_8abf5 1 (some Jvm.ClassFile.FieldType.int) ∈ mtb := mk_s3 172 rfl rfl
theorem k_786 : Cond.methodLink RX9 107 yX9_readPond ∈ mtb := mk_s3 173 rfl rfl
theorem k_788 : Cond.instanceMethod yX9_readPond ∈ mtb := mk_s3 175 rfl rfl
theorem k_789 : Cond.code yX9_readPond cX9_readPond 3 (some Jvm.ClassFile.FieldType.boolean) ∈ mtb := mk_s3 176 rfl rfl
theorem k_790 : Cond.methodLink RX9 86 yX10_advance ∈ mtb := mk_s3 177 rfl rfl
theorem k_791 : Cond.methodLink RX9 173 yX9_readNumber ∈ mtb := mk_s3 178 rfl rfl
theorem k_793 : Cond.instanceMethod yX9_readNumber ∈ mtb := mk_s3 180 rfl rfl
theorem k_794 : Cond.code yX9_readNumber cX9_readNumber 4 (some Jvm.ClassFile.FieldType.int) ∈ mtb := mk_s3 181 rfl rfl
theorem k_795 : Cond.methodLink RX9 110 yX9_readLand ∈ mtb := mk_s3 182 rfl rfl
theorem k_797 : Cond.instanceMethod yX9_readLand ∈ mtb := mk_s3 184 rfl rfl
theorem k_798 : Cond.code yX9_readLand cX9_readLand 2 (some Jvm.ClassFile.FieldType.boolean) ∈ mtb := mk_s3 185 rfl rfl
theorem k_799 : Cond.methodLink RX9 191 yJ13_bitCount_95d88 ∈ mtb := mk_s3 186 rfl rfl
theorem k_800 : Cond.static yJ13_bitCount_95d88 ∈ mtb := mk_s3 187 rfl rfl
theorem k_801 : Cond.code yJ13_bitCount_95d88 cJ13_bitCount_95d88 2 (some Jvm.ClassFile.FieldType.int) ∈ mtb := mk_s3 188 rfl rfl
theorem k_802 : Cond.constantLong RJ13 314 (Int64.ofInt 6148914691236517205) ∈ mtb := mk_s3 189 rfl rfl
theorem k_803 : Cond.constantLong RJ13 316 (Int64.ofInt 3689348814741910323) ∈ mtb := mk_s3 190 rfl rfl
theorem k_804 : Cond.constantLong RJ13 318 (Int64.ofInt 1085102592571150095) ∈ mtb := mk_s3 191 rfl rfl
theorem k_805 : Cond.methodLink RX9 125 yX9_beginCells ∈ mtb := mk_s3 192 rfl rfl
theorem k_807 : Cond.instanceMethod yX9_beginCells ∈ mtb := mk_s3 194 rfl rfl
theorem k_808 : Cond.code yX9_beginCells cX9_beginCells 2 (some Jvm.ClassFile.FieldType.boolean) ∈ mtb := mk_s3 195 rfl rfl
theorem k_809 : Cond.methodLink RX9 197 yX5_usedCells ∈ mtb := mk_s3 196 rfl rfl
theorem k_810 : Cond.instanceMethod yX5_usedCells ∈ mtb := mk_s3 197 rfl rfl
theorem k_811 : Cond.selects RX5 yX5_usedCells yX5_usedCells ∈ mtb := mk_s3 198 rfl rfl
theorem k_812 : Cond.code yX5_usedCells cX5_usedCells 4 (some Jvm.ClassFile.FieldType.long) ∈ mtb := mk_s3 199 rfl rfl
theorem k_813 : Cond.methodLink RX5 94 yX7_cellBits ∈ mtb := mk_s3 200 rfl rfl
theorem k_814 : Cond.instanceMethod yX7_cellBits ∈ mtb := mk_s3 201 rfl rfl
theorem k_815 : Cond.selects RX7 yX7_cellBits yX7_cellBits ∈ mtb := mk_s3 202 rfl rfl
theorem k_816 : Cond.code yX7_cellBits cX7_cellBits 4 (some Jvm.ClassFile.FieldType.long) ∈ mtb := mk_s3 203 rfl rfl
theorem k_817 : Cond.methodLink RX5 98 yX1_cellBits ∈ mtb := mk_s3 204 rfl rfl
theorem k_818 : Cond.instanceMethod yX1_cellBits ∈ mtb := mk_s3 205 rfl rfl
theorem k_819 : Cond.selects RX1 yX1_cellBits yX1_cellBits ∈ mtb := mk_s3 206 rfl rfl
theorem k_820 : Cond.code yX1_cellBits cX1_cellBits 4 (some Jvm.ClassFile.FieldType.long) ∈ mtb := mk_s3 207 rfl rfl
theorem k_821 : Cond.methodLink RX9 201 yX9_readCell ∈ mtb := mk_s3 208 rfl rfl
theorem k_823 : Cond.instanceMethod yX9_readCell ∈ mtb := mk_s3 210 rfl rfl
theorem k_824 : Cond.code yX9_readCell cX9_readCell 7 (some Jvm.ClassFile.FieldType.int) ∈ mtb := mk_s3 211 rfl rfl
theorem k_825 : Cond.methodLink RX9 113 yX9_readReed ∈ mtb := mk_s3 212 rfl rfl
theorem k_827 : Cond.instanceMethod yX9_readReed ∈ mtb := mk_s3 214 rfl rfl
theorem k_828 : Cond.code yX9_readReed cX9_readReed 2 (some Jvm.ClassFile.FieldType.boolean) ∈ mtb := mk_s3 215 rfl rfl
theorem k_829 : Cond.methodLink RX9 120 yX7_isFull ∈ mtb := mk_s3 216 rfl rfl
theorem k_830 : Cond.instanceMethod yX7_isFull ∈ mtb := mk_s3 217 rfl rfl
theorem k_831 : Cond.selects RX7 yX7_isFull yX7_isFull ∈ mtb := mk_s3 218 rfl rfl
theorem k_832 : Cond.code yX7_isFull cX7_isFull 1 (some Jvm.ClassFile.FieldType.boolean) ∈ mtb := mk_s3 219 rfl rfl
theorem k_833 : Cond.methodLink RX9 129 yX9_readShoreCell ∈ mtb := mk_s3 220 rfl rfl
theorem k_835 : Cond.instanceMethod yX9_readShoreCell ∈ mtb := mk_s3 222 rfl rfl
theorem k_836 : Cond.code yX9_readShoreCell cX9_readShoreCell 3 (some Jvm.ClassFile.FieldType.boolean) ∈ mtb := mk_s3 223 rfl rfl
theorem k_837 : Cond.methodLink RX9 207 yX7_cellBits ∈ mtb := mk_s3 224 rfl rfl
theorem k_838 : Cond.methodLink RX9 184 yX7_add ∈ mtb := mk_s3 225 rfl rfl
theorem k_839 : Cond.instanceMethod yX7_add ∈ mtb := mk_s3 226 rfl rfl
theorem k_840 : Cond.selects RX7 yX7_add yX7_add ∈ mtb := mk_s3 227 rfl rfl
theorem k_841 : Cond.code yX7_add cX7_add 2 none ∈ mtb := mk_s3 228 rfl rfl
theorem k_842 : Cond.methodLink RX9 133 yX9_readKind ∈ mtb := mk_s3 229 rfl rfl
theorem k_844 : Cond.instanceMethod yX9_readKind ∈ mtb := mk_s3 231 rfl rfl
theorem k_845 : Cond.code yX9_readKind cX9_readKind 3 (some Jvm.ClassFile.FieldType.boolean) ∈ mtb := mk_s3 232 rfl rfl
theorem k_846 : Cond.methodLink RX9 216 yX5_risesOf ∈ mtb := mk_s3 233 rfl rfl
theorem k_847 : Cond.instanceMethod yX5_risesOf ∈ mtb := mk_s3 234 rfl rfl
theorem k_848 : Cond.selects RX5 yX5_risesOf yX5_risesOf ∈ mtb := mk_s3 235 rfl rfl
theorem k_849 : Cond.code yX5_risesOf cX5_risesOf 2 (some (Jvm.ClassFile.FieldType.object "PondReader$Row")) ∈ mtb := mk_s3 236 rfl rfl
theorem k_850 : Cond.methodLink RX9 220 yX9_readNewName ∈ mtb := mk_s3 237 rfl rfl
theorem k_852 : Cond.instanceMethod yX9_readNewName ∈ mtb := mk_s3 239 rfl rfl
theorem k_853 : Cond.code yX9_readNewName cX9_readNewName 2 (some Jvm.ClassFile.FieldType.boolean) ∈ mtb := mk_s4 0 rfl rfl
theorem k_854 : Cond.methodLink RX9 180 yX7_indexOf ∈ mtb := mk_s4 1 rfl rfl
theorem k_855 : Cond.instanceMethod yX7_indexOf ∈ mtb := mk_s4 2 rfl rfl
theorem k_856 : Cond.selects RX7 yX7_indexOf yX7_indexOf ∈ mtb := mk_s4 3 rfl rfl
theorem k_857 : Cond.code yX7_indexOf cX7_indexOf 3 (some Jvm.ClassFile.FieldType.int) ∈ mtb := mk_s4 4 rfl rfl
theorem k_858 : Cond.methodLink RX9 223 yX9_readRises ∈ mtb := mk_s4 5 rfl rfl
theorem k_860 : Cond.instanceMethod yX9_readRises ∈ mtb := mk_s4 7 rfl rfl
theorem k_861 : Cond.code yX9_readRises cX9_readRises 5 (some Jvm.ClassFile.FieldType.boolean) ∈ mtb := mk_s4 8 rfl rfl
theorem k_862 : Cond.methodLink RX9 79 yX10_isSign ∈ mtb := mk_s4 9 rfl rfl
theorem k_863 : Cond.instanceMethod yX10_isSign ∈ mtb := mk_s4 10 rfl rfl
theorem k_864 : Cond.selects RX10 yX10_isSign yX10_isSign ∈ mtb := mk_s4 11 rfl rfl
theorem k_865 : Cond.code yX10_isSign cX10_isSign 2 (some Jvm.ClassFile.FieldType.boolean) ∈ mtb := mk_s4 12 rfl rfl
theorem k_866 : Cond.fieldLink RX9 226 "PondReader$Word" "ODDS" "LPondReader$Word;" ∈ mtb := mk_s4 13 rfl rfl
theorem k_868 : Cond.methodLink RX9 230 yX10_isWord ∈ mtb := mk_s4 15 rfl rfl
theorem k_869 : Cond.instanceMethod yX10_isWord ∈ mtb := mk_s4 16 rfl rfl
theorem k_870 : Cond.selects RX10 yX10_isWord yX10_isWord ∈ mtb := mk_s4 17 rfl rfl
theorem k_871 : Cond.code yX10_isWord cX10_isWord 2 (some Jvm.ClassFile.FieldType.boolean) ∈ mtb := mk_s4 18 rfl rfl
theorem k_872 : Cond.methodLink RX9 142 yX9_readPlaced ∈ mtb := mk_s4 19 rfl rfl
theorem k_874 : Cond.instanceMethod yX9_readPlaced ∈ mtb := mk_s4 21 rfl rfl
theorem k_875 : Cond.code yX9_readPlaced cX9_readPlaced 4 (some Jvm.ClassFile.FieldType.boolean) ∈ mtb := mk_s4 22 rfl rfl
theorem k_876 : Cond.methodLink RX9 152 yX9_readDrop ∈ mtb := mk_s4 23 rfl rfl
theorem k_878 : Cond.instanceMethod yX9_readDrop ∈ mtb := mk_s4 25 rfl rfl
theorem k_879 : Cond.code yX9_readDrop cX9_readDrop 4 (some Jvm.ClassFile.FieldType.boolean) ∈ mtb := mk_s4 26 rfl rfl
theorem k_880 : Cond.methodLink RX9 241 yX1_isFull ∈ mtb := mk_s4 27 rfl rfl
theorem k_881 : Cond.instanceMethod yX1_isFull ∈ mtb := mk_s4 28 rfl rfl
theorem k_882 : Cond.selects RX1 yX1_isFull yX1_isFull ∈ mtb := mk_s4 29 rfl rfl
theorem k_883 : Cond.code yX1_isFull cX1_isFull 1 (some Jvm.ClassFile.FieldType.boolean) ∈ mtb := mk_s4 30 rfl rfl
theorem k_884 : Cond.methodLink RX9 244 yX1_add ∈ mtb := mk_s4 31 rfl rfl
theorem k_885 : Cond.methodLink RX9 155 yX9_readLoss ∈ mtb := mk_s4 32 rfl rfl
theorem k_887 : Cond.instanceMethod yX9_readLoss ∈ mtb := mk_s4 34 rfl rfl
theorem k_888 : Cond.code yX9_readLoss cX9_readLoss 2 (some Jvm.ClassFile.FieldType.boolean) ∈ mtb := mk_s4 35 rfl rfl
theorem k_889 : Cond.methodLink RX9 247 yX9_readOnce ∈ mtb := mk_s4 36 rfl rfl
theorem k_891 : Cond.instanceMethod yX9_readOnce ∈ mtb := mk_s4 38 rfl rfl
theorem k_892 : Cond.code yX9_readOnce cX9_readOnce 3 (some Jvm.ClassFile.FieldType.int) ∈ mtb := mk_s4 39 rfl rfl
theorem k_893 : Cond.methodLink RX9 251 yJ9_max_7cf53 ∈ mtb := mk_s4 40 rfl rfl
theorem k_894 : Cond.methodLink RX9 158 yX9_readThick ∈ mtb := mk_s4 41 rfl rfl
theorem k_896 : Cond.instanceMethod yX9_readThick ∈ mtb := mk_s4 43 rfl rfl
theorem k_897 : Cond.code yX9_readThick cX9_readThick 2 (some Jvm.ClassFile.FieldType.boolean) ∈ mtb := mk_s4 44 rfl rfl
theorem k_898 : Cond.methodLink RX9 161 yX9_readSent ∈ mtb := mk_s4 45 rfl rfl
theorem k_900 : Cond.instanceMethod yX9_readSent ∈ mtb := mk_s4 47 rfl rfl
theorem k_901 : Cond.code yX9_readSent cX9_readSent 2 (some Jvm.ClassFile.FieldType.boolean) ∈ mtb := mk_s4 48 rfl rfl
theorem k_902 : Cond.methodLink RX9 164 yX9_readLaw ∈ mtb := mk_s4 49 rfl rfl
theorem k_904 : Cond.instanceMethod yX9_readLaw ∈ mtb := mk_s4 51 rfl rfl
theorem k_905 : Cond.code yX9_readLaw cX9_readLaw 2 (some Jvm.ClassFile.FieldType.boolean) ∈ mtb := mk_s4 52 rfl rfl
theorem k_906 : Cond.methodLink RX9 278 yX3_isEmpty ∈ mtb := mk_s4 53 rfl rfl
theorem k_907 : Cond.instanceMethod yX3_isEmpty ∈ mtb := mk_s4 54 rfl rfl
theorem k_908 : Cond.selects RX3 yX3_isEmpty yX3_isEmpty ∈ mtb := mk_s4 55 rfl rfl
theorem k_909 : Cond.code yX3_isEmpty cX3_isEmpty 1 (some Jvm.ClassFile.FieldType.boolean) ∈ mtb := mk_s4 56 rfl rfl
theorem k_910 : Cond.methodLink RX9 295 yX9_lawEnds ∈ mtb := mk_s4 57 rfl rfl
theorem k_912 : Cond.instanceMethod yX9_lawEnds ∈ mtb := mk_s4 59 rfl rfl
theorem k_913 : Cond.code yX9_lawEnds cX9_lawEnds 1 (some Jvm.ClassFile.FieldType.boolean) ∈ mtb := mk_s4 60 rfl rfl
theorem k_914 : Cond.methodLink RX9 298 yX9_readBehindOperand ∈ mtb := mk_s4 61 rfl rfl
theorem k_916 : Cond.instanceMethod yX9_readBehindOperand ∈ mtb := mk_s4 63 rfl rfl
theorem k_917 : Cond.code yX9_readBehindOperand cX9_readBehindOperand 3 (some Jvm.ClassFile.FieldType.boolean) ∈ mtb := mk_s4 64 rfl rfl
theorem k_918 : Cond.methodLink RX9 329 yX9_readClose ∈ mtb := mk_s4 65 rfl rfl
theorem k_920 : Cond.instanceMethod yX9_readClose ∈ mtb := mk_s4 67 rfl rfl
theorem k_921 : Cond.code yX9_readClose cX9_readClose 1 (some Jvm.ClassFile.FieldType.boolean) ∈ mtb := mk_s4 68 rfl rfl
theorem k_922 : Cond.methodLink RX9 304 yX9_release ∈ mtb := mk_s4 69 rfl rfl
theorem k_924 : Cond.instanceMethod yX9_release ∈ mtb := mk_s4 71 rfl rfl
theorem k_925 : Cond.code yX9_release cX9_release 2 none ∈ mtb := mk_s4 72 rfl rfl
theorem k_926 : Cond.methodLink RX9 317 yX9_topRank ∈ mtb := mk_s4 73 rfl rfl
theorem k_928 : Cond.instanceMethod yX9_topRank ∈ mtb := mk_s4 75 rfl rfl
theorem k_929 : Cond.code yX9_topRank cX9_topRank 2 (some Jvm.ClassFile.FieldType.int) ∈ mtb := mk_s4 76 rfl rfl
theorem k_930 : Cond.methodLink RX9 326 yX3_add ∈ mtb := mk_s4 77 rfl rfl
theorem k_931 : Cond.instanceMethod yX3_add ∈ mtb := mk_s4 78 rfl rfl
theorem k_932 : Cond.selects RX3 yX3_add yX3_add ∈ mtb := mk_s4 79 rfl rfl
theorem k_933 : Cond.code yX3_add cX3_add 3 none ∈ mtb := mk_s4 80 rfl rfl
theorem k_934 : Cond.methodLink RX9 314 yX9_wordCode ∈ mtb := mk_s4 81 rfl rfl
theorem k_936 : Cond.instanceMethod yX9_wordCode ∈ mtb := mk_s4 83 rfl rfl
theorem k_937 : Cond.code yX9_wordCode cX9_wordCode 2 (some Jvm.ClassFile.FieldType.int) ∈ mtb := mk_s4 84 rfl rfl
theorem k_938 : Cond.methodLink RX9 332 yX9_rankOf ∈ mtb := mk_s4 85 rfl rfl
theorem k_939 : Cond.static yX9_rankOf ∈ mtb := mk_s4 86 rfl rfl
theorem k_940 : Cond.code yX9_rankOf cX9_rankOf 1 (some Jvm.ClassFile.FieldType.int) ∈ mtb := mk_s4 87 rfl rfl
theorem k_941 : Cond.methodLink RX9 320 yX9_isRoomForKnot ∈ mtb := mk_s4 88 rfl rfl
theorem k_943 : Cond.instanceMethod yX9_isRoomForKnot ∈ mtb := mk_s4 90 rfl rfl
theorem k_944 : Cond.code yX9_isRoomForKnot cX9_isRoomForKnot 1 (some Jvm.ClassFile.FieldType.boolean) ∈ mtb := mk_s4 91 rfl rfl
theorem k_945 : Cond.methodLink RX9 310 yX9_hold ∈ mtb := mk_s4 92 rfl rfl
theorem k_947 : Cond.instanceMethod yX9_hold ∈ mtb := mk_s4 94 rfl rfl
theorem k_948 : Cond.code yX9_hold cX9_hold 3 (some Jvm.ClassFile.FieldType.boolean) ∈ mtb := mk_s4 95 rfl rfl
theorem k_949 : Cond.methodLink RX9 301 yX9_readOperand ∈ mtb := mk_s4 96 rfl rfl
theorem k_951 : Cond.instanceMethod yX9_readOperand ∈ mtb := mk_s4 98 rfl rfl
theorem k_952 : Cond.code yX9_readOperand cX9_readOperand 2 (some Jvm.ClassFile.FieldType.boolean) ∈ mtb := mk_s4 99 rfl rfl
theorem k_953 : Cond.methodLink RX9 307 yX9_readLeaf ∈ mtb := mk_s4 100 rfl rfl
theorem k_955 : Cond.instanceMethod yX9_readLeaf ∈ mtb := mk_s4 102 rfl rfl
theorem k_956 : Cond.code yX9_readLeaf cX9_readLeaf 2 (some Jvm.ClassFile.FieldType.boolean) ∈ mtb := mk_s4 103 rfl rfl
theorem k_957 : Cond.methodLink RX9 167 yX9_readMay ∈ mtb := mk_s4 104 rfl rfl
theorem k_959 : Cond.instanceMethod yX9_readMay ∈ mtb := mk_s4 106 rfl rfl
theorem k_960 : Cond.code yX9_readMay cX9_readMay 3 (some Jvm.ClassFile.FieldType.boolean) ∈ mtb := mk_s4 107 rfl rfl
theorem k_961 : Cond.methodLink RX9 268 yX5_shoresOf ∈ mtb := mk_s4 108 rfl rfl
theorem k_962 : Cond.instanceMethod yX5_shoresOf ∈ mtb := mk_s4 109 rfl rfl
theorem k_963 : Cond.selects RX5 yX5_shoresOf yX5_shoresOf ∈ mtb := mk_s4 110 rfl rfl
theorem k_964 : Cond.code yX5_shoresOf cX5_shoresOf 2 (some (Jvm.ClassFile.FieldType.object "PondReader$Row")) ∈ mtb := mk_s4 111 rfl rfl
theorem k_965 : Cond.fieldLink RX9 271 "PondReader$Word" "SHORE" "LPondReader$Word;" ∈ mtb := mk_s4 112 rfl rfl
theorem k_967 : Cond.methodLink RX9 73 yX9_lineEnds ∈ mtb := mk_s4 114 rfl rfl
theorem k_969 : Cond.instanceMethod yX9_lineEnds ∈ mtb := mk_s4 116 rfl rfl
theorem k_970 : Cond.code yX9_lineEnds cX9_lineEnds 1 (some Jvm.ClassFile.FieldType.boolean) ∈ mtb := mk_s4 117 rfl rfl
theorem k_971 : Cond.methodLink RX13 89 yX11_begin ∈ mtb := mk_s4 118 rfl rfl
theorem k_972 : Cond.methodLink RX13 92 yX4_clear ∈ mtb := mk_s4 119 rfl rfl
theorem k_973 : Cond.instanceMethod yX4_clear ∈ mtb := mk_s4 120 rfl rfl
theorem k_974 : Cond.selects RX4 yX4_clear yX4_clear ∈ mtb := mk_s4 121 rfl rfl
theorem k_975 : Cond.code yX4_clear cX4_clear 1 none ∈ mtb := mk_s4 122 rfl rfl
theorem k_984 : Cond.methodLink RX13 108 yX7_indexOf ∈ mtb := mk_s4 131 rfl rfl
theorem k_989 : Cond.methodLink RX13 152 yX5_isCell ∈ mtb := mk_s4 136 rfl rfl
theorem k_990 : Cond.instanceMethod yX5_isCell ∈ mtb := mk_s4 137 rfl rfl
theorem k_991 : Cond.selects RX5 yX5_isCell yX5_isCell ∈ mtb := mk_s4 138 rfl rfl
theorem k_992 : Cond.code yX5_isCell cX5_isCell 2 (some Jvm.ClassFile.FieldType.boolean) ∈ mtb := mk_s4 139 rfl rfl
theorem k_993 : Cond.methodLink RX13 155 yX5_isWet ∈ mtb := mk_s4 140 rfl rfl
theorem k_994 : Cond.instanceMethod yX5_isWet ∈ mtb := mk_s4 141 rfl rfl
theorem k_995 : Cond.selects RX5 yX5_isWet yX5_isWet ∈ mtb := mk_s4 142 rfl rfl
theorem k_996 : Cond.code yX5_isWet cX5_isWet 2 (some Jvm.ClassFile.FieldType.boolean) ∈ mtb := mk_s4 143 rfl rfl
theorem k_997 : Cond.methodLink RX13 158 yX11_hasReeds ∈ mtb := mk_s4 144 rfl rfl
theorem k_998 : Cond.instanceMethod yX11_hasReeds ∈ mtb := mk_s4 145 rfl rfl
theorem k_999 : Cond.selects RX11 yX11_hasReeds yX11_hasReeds ∈ mtb := mk_s4 146 rfl rfl
theorem k_1000 : Cond.code yX11_hasReeds cX11_hasReeds 2 (some Jvm.ClassFile.FieldType.boolean) ∈ mtb := mk_s4 147 rfl rfl
theorem k_1001 : Cond.methodLink RX13 171 yX1_inCell ∈ mtb := mk_s4 148 rfl rfl
theorem k_1002 : Cond.instanceMethod yX1_inCell ∈ mtb := mk_s4 149 rfl rfl
theorem k_1003 : Cond.selects RX1 yX1_inCell yX1_inCell ∈ mtb := mk_s4 150 rfl rfl
theorem k_1004 : Cond.code yX1_inCell cX1_inCell 4 (some Jvm.ClassFile.FieldType.int) ∈ mtb := mk_s4 151 rfl rfl
theorem k_1009 : Cond.methodLink RX13 176 yX1_part ∈ mtb := mk_s4 156 rfl rfl
theorem k_1010 : Cond.instanceMethod yX1_part ∈ mtb := mk_s4 157 rfl rfl
theorem k_1011 : Cond.selects RX1 yX1_part yX1_part ∈ mtb := mk_s4 158 rfl rfl
theorem k_1012 : Cond.code yX1_part cX1_part 3 (some Jvm.ClassFile.FieldType.int) ∈ mtb := mk_s4 159 rfl rfl
theorem k_1017 : Cond.methodLink RX13 180 yX6_freshenWays ∈ mtb := mk_s4 164 rfl rfl
theorem k_1018 : Cond.instanceMethod yX6_freshenWays ∈ mtb := mk_s4 165 rfl rfl
theorem k_1019 : Cond.selects RX6 yX6_freshenWays yX6_freshenWays ∈ mtb := mk_s4 166 rfl rfl
theorem k_1020 : Cond.code yX6_freshenWays cX6_freshenWays 2 none ∈ mtb := mk_s4 167 rfl rfl
theorem k_1021 : Cond.methodLink RX6 49 yX6_layNeighbours ∈ mtb := mk_s4 168 rfl rfl
theorem k_1023 : Cond.instanceMethod yX6_layNeighbours ∈ mtb := mk_s4 170 rfl rfl
theorem k_1024 : Cond.code yX6_layNeighbours cX6_layNeighbours 6 none ∈ mtb := mk_s4 171 rfl rfl
theorem k_1025 : Cond.methodLink RX6 139 yX6_setNear ∈ mtb := mk_s4 172 rfl rfl
theorem k_1027 : Cond.instanceMethod yX6_setNear ∈ mtb := mk_s4 174 rfl rfl
theorem k_1028 : Cond.code yX6_setNear cX6_setNear 6 none ∈ mtb := mk_s4 175 rfl rfl
theorem k_1029 : Cond.methodLink RX6 143 yX5_isWet ∈ mtb := mk_s4 176 rfl rfl
theorem k_1030 : Cond.methodLink RX6 56 yX5_cells ∈ mtb := mk_s4 177 rfl rfl
theorem k_1031 : Cond.instanceMethod yX5_cells ∈ mtb := mk_s4 178 rfl rfl
theorem k_1032 : Cond.selects RX5 yX5_cells yX5_cells ∈ mtb := mk_s4 179 rfl rfl
theorem k_1033 : Cond.code yX5_cells cX5_cells 1 (some Jvm.ClassFile.FieldType.int) ∈ mtb := mk_s4 180 rfl rfl
theorem k_1034 : Cond.methodLink RX6 62 yX6_spread ∈ mtb := mk_s4 181 rfl rfl
theorem k_1036 : Cond.instanceMethod yX6_spread ∈ mtb := mk_s4 183 rfl rfl
theorem k_1037 : Cond.code yX6_spread cX6_spread 6 none ∈ mtb := mk_s4 184 rfl rfl
theorem k_1038 : Cond.methodLink RX6 150 yX6_nearOf ∈ mtb := mk_s4 185 rfl rfl
theorem k_1039 : Cond.instanceMethod yX6_nearOf ∈ mtb := mk_s4 186 rfl rfl
theorem k_1040 : Cond.selects RX6 yX6_nearOf yX6_nearOf ∈ mtb := mk_s4 187 rfl rfl
theorem k_1041 : Cond.code yX6_nearOf cX6_nearOf 4 (some Jvm.ClassFile.FieldType.int) ∈ mtb := mk_s4 188 rfl rfl
theorem k_1042 : Cond.methodLink RX6 147 yX5_isCell ∈ mtb := mk_s4 189 rfl rfl
theorem k_1043 : Cond.methodLink RX6 153 yX6_handOn ∈ mtb := mk_s4 190 rfl rfl
theorem k_1045 : Cond.instanceMethod yX6_handOn ∈ mtb := mk_s4 192 rfl rfl
theorem k_1046 : Cond.code yX6_handOn cX6_handOn 8 (some Jvm.ClassFile.FieldType.boolean) ∈ mtb := mk_s4 193 rfl rfl
theorem k_1047 : Cond.methodLink RX6 160 yX11_hasReeds ∈ mtb := mk_s4 194 rfl rfl
theorem k_1048 : Cond.methodLink RX13 183 yX6_farOf ∈ mtb := mk_s4 195 rfl rfl
theorem k_1049 : Cond.instanceMethod yX6_farOf ∈ mtb := mk_s4 196 rfl rfl
theorem k_1050 : Cond.selects RX6 yX6_farOf yX6_farOf ∈ mtb := mk_s4 197 rfl rfl
theorem k_1051 : Cond.code yX6_farOf cX6_farOf 4 (some Jvm.ClassFile.FieldType.int) ∈ mtb := mk_s4 198 rfl rfl
theorem k_1056 : Cond.methodLink RX13 186 yX6_weakOf ∈ mtb := mk_s4 203 rfl rfl
theorem k_1057 : Cond.instanceMethod yX6_weakOf ∈ mtb := mk_s4 204 rfl rfl
theorem k_1058 : Cond.selects RX6 yX6_weakOf yX6_weakOf ∈ mtb := mk_s4 205 rfl rfl
theorem k_1059 : Cond.code yX6_weakOf cX6_weakOf 4 (some Jvm.ClassFile.FieldType.int) ∈ mtb := mk_s4 206 rfl rfl
theorem k_1061 : Cond.instanceMethod yX13_rise ∈ mtb := mk_s4 208 rfl rfl
theorem k_1062 : Cond.selects RX13 yX13_rise yX13_rise ∈ mtb := mk_s4 209 rfl rfl
theorem k_1063 : Cond.code yX13_rise cX13_rise 3 (some Jvm.ClassFile.FieldType.int) ∈ mtb := mk_s4 210 rfl rfl
theorem k_1064 : Cond.methodLink RX13 189 yX13_isStep ∈ mtb := mk_s4 211 rfl rfl
theorem k_1065 : Cond.static yX13_isStep ∈ mtb := mk_s4 212 rfl rfl
theorem k_1066 : Cond.code yX13_isStep cX13_isStep 2 (some Jvm.ClassFile.FieldType.boolean) ∈ mtb := mk_s4 213 rfl rfl
theorem k_1067 : Cond.constant RX13 195 (Int32.ofInt (-2147483648)) ∈ mtb := mk_s4 214 rfl rfl
theorem k_1068 : Cond.methodLink RX13 196 yX6_freshenSums ∈ mtb := mk_s4 215 rfl rfl
theorem k_1069 : Cond.instanceMethod yX6_freshenSums ∈ mtb := mk_s4 216 rfl rfl
theorem k_1070 : Cond.selects RX6 yX6_freshenSums yX6_freshenSums ∈ mtb := mk_s4 217 rfl rfl
theorem k_1071 : Cond.code yX6_freshenSums cX6_freshenSums 3 none ∈ mtb := mk_s4 218 rfl rfl
theorem k_1072 : Cond.methodLink RX6 65 yX6_freshenWays ∈ mtb := mk_s4 219 rfl rfl
theorem k_1073 : Cond.methodLink RX6 89 yX6_pour ∈ mtb := mk_s4 220 rfl rfl
theorem k_1074 : Cond.instanceMethod yX6_pour ∈ mtb := mk_s4 221 rfl rfl
theorem k_1075 : Cond.selects RX6 yX6_pour yX6_pour ∈ mtb := mk_s4 222 rfl rfl
theorem k_1076 : Cond.code yX6_pour cX6_pour 8 none ∈ mtb := mk_s4 223 rfl rfl
theorem k_1077 : Cond.methodLink RX6 93 yX5_risesOf ∈ mtb := mk_s4 224 rfl rfl
theorem k_1078 : Cond.methodLink RX6 100 yX7_clear ∈ mtb := mk_s4 225 rfl rfl
theorem k_1079 : Cond.methodLink RX6 104 yX7_orZero ∈ mtb := mk_s4 226 rfl rfl
theorem k_1080 : Cond.instanceMethod yX7_orZero ∈ mtb := mk_s4 227 rfl rfl
theorem k_1081 : Cond.selects RX7 yX7_orZero yX7_orZero ∈ mtb := mk_s4 228 rfl rfl
theorem k_1082 : Cond.code yX7_orZero cX7_orZero 2 (some Jvm.ClassFile.FieldType.int) ∈ mtb := mk_s4 229 rfl rfl
theorem k_1083 : Cond.methodLink RX6 108 yX7_add ∈ mtb := mk_s4 230 rfl rfl
theorem k_1084 : Cond.methodLink RX6 111 yX6_spreadRises ∈ mtb := mk_s4 231 rfl rfl
theorem k_1086 : Cond.instanceMethod yX6_spreadRises ∈ mtb := mk_s4 233 rfl rfl
theorem k_1087 : Cond.code yX6_spreadRises cX6_spreadRises 7 none ∈ mtb := mk_s4 234 rfl rfl
theorem k_1088 : Cond.methodLink RX6 119 yX6_farOf ∈ mtb := mk_s4 235 rfl rfl
theorem k_1089 : Cond.methodLink RX6 127 yX6_partOf ∈ mtb := mk_s4 236 rfl rfl
theorem k_1091 : Cond.instanceMethod yX6_partOf ∈ mtb := mk_s4 238 rfl rfl
theorem k_1092 : Cond.code yX6_partOf cX6_partOf 5 (some Jvm.ClassFile.FieldType.int) ∈ mtb := mk_s4 239 rfl rfl
theorem k_1093 : Cond.methodLink RX6 130 yX6_addSum ∈ mtb := mk_s5 0 rfl rfl
theorem k_1095 : Cond.instanceMethod yX6_addSum ∈ mtb := mk_s5 2 rfl rfl
theorem k_1096 : Cond.code yX6_addSum cX6_addSum 4 none ∈ mtb := mk_s5 3 rfl rfl
theorem k_1097 : Cond.methodLink RX6 115 yX6_pourBy ∈ mtb := mk_s5 4 rfl rfl
theorem k_1099 : Cond.instanceMethod yX6_pourBy ∈ mtb := mk_s5 6 rfl rfl
theorem k_1100 : Cond.code yX6_pourBy cX6_pourBy 6 none ∈ mtb := mk_s5 7 rfl rfl
theorem k_1101 : Cond.methodLink RX6 123 yX6_sentOf ∈ mtb := mk_s5 8 rfl rfl
theorem k_1103 : Cond.instanceMethod yX6_sentOf ∈ mtb := mk_s5 10 rfl rfl
theorem k_1104 : Cond.code yX6_sentOf cX6_sentOf 4 (some Jvm.ClassFile.FieldType.int) ∈ mtb := mk_s5 11 rfl rfl
theorem k_1105 : Cond.methodLink RX13 199 yX6_sumAt ∈ mtb := mk_s5 12 rfl rfl
theorem k_1106 : Cond.instanceMethod yX6_sumAt ∈ mtb := mk_s5 13 rfl rfl
theorem k_1107 : Cond.selects RX6 yX6_sumAt yX6_sumAt ∈ mtb := mk_s5 14 rfl rfl
theorem k_1108 : Cond.code yX6_sumAt cX6_sumAt 4 (some Jvm.ClassFile.FieldType.int) ∈ mtb := mk_s5 15 rfl rfl
theorem k_1113 : Cond.methodLink RX13 123 yX7_has ∈ mtb := mk_s5 20 rfl rfl
theorem k_1114 : Cond.instanceMethod yX7_has ∈ mtb := mk_s5 21 rfl rfl
theorem k_1115 : Cond.selects RX7 yX7_has yX7_has ∈ mtb := mk_s5 22 rfl rfl
theorem k_1116 : Cond.code yX7_has cX7_has 2 (some Jvm.ClassFile.FieldType.boolean) ∈ mtb := mk_s5 23 rfl rfl
theorem k_1117 : Cond.methodLink RX13 144 yX7_orZero ∈ mtb := mk_s5 24 rfl rfl
theorem k_1118 : Cond.methodLink RX13 202 yX13_rise ∈ mtb := mk_s5 25 rfl rfl
theorem k_1123 : Cond.methodLink RX13 205 yX6_peakStep ∈ mtb := mk_s5 30 rfl rfl
theorem k_1124 : Cond.instanceMethod yX6_peakStep ∈ mtb := mk_s5 31 rfl rfl
theorem k_1125 : Cond.selects RX6 yX6_peakStep yX6_peakStep ∈ mtb := mk_s5 32 rfl rfl
theorem k_1126 : Cond.code yX6_peakStep cX6_peakStep 5 (some Jvm.ClassFile.FieldType.int) ∈ mtb := mk_s5 33 rfl rfl
theorem k_1127 : Cond.methodLink RX6 169 yX6_sumAt ∈ mtb := mk_s5 34 rfl rfl
theorem k_1132 : Cond.methodLink RX13 212 yX3_isEmpty ∈ mtb := mk_s5 39 rfl rfl
theorem k_1133 : Cond.constantLong RX13 218 (Int64.ofInt (-9223372036854775808)) ∈ mtb := mk_s5 40 rfl rfl
theorem k_1134 : Cond.methodLink RX13 223 yX8_drive ∈ mtb := mk_s5 41 rfl rfl
theorem k_1135 : Cond.instanceMethod yX8_drive ∈ mtb := mk_s5 42 rfl rfl
theorem k_1136 : Cond.selects RX8 yX8_drive yX8_drive ∈ mtb := mk_s5 43 rfl rfl
theorem k_1137 : Cond.code yX8_drive cX8_drive 7 (some Jvm.ClassFile.FieldType.long) ∈ mtb := mk_s5 44 rfl rfl
theorem k_1138 : Cond.methodLink RX8 86 yX6_nearOf ∈ mtb := mk_s5 45 rfl rfl
theorem k_1139 : Cond.constantLong RX8 93 (Int64.ofInt (-9223372036854775808)) ∈ mtb := mk_s5 46 rfl rfl
theorem k_1140 : Cond.methodLink RX8 95 yX6_sumAt ∈ mtb := mk_s5 47 rfl rfl
theorem k_1141 : Cond.methodLink RX8 102 yX3_isEmpty ∈ mtb := mk_s5 48 rfl rfl
theorem k_1142 : Cond.methodLink RX8 108 yX11_hasReeds ∈ mtb := mk_s5 49 rfl rfl
theorem k_1143 : Cond.methodLink RX8 112 yX3_worth ∈ mtb := mk_s5 50 rfl rfl
theorem k_1144 : Cond.instanceMethod yX3_worth ∈ mtb := mk_s5 51 rfl rfl
theorem k_1145 : Cond.selects RX3 yX3_worth yX3_worth ∈ mtb := mk_s5 52 rfl rfl
theorem k_1146 : Cond.code yX3_worth cX3_worth 13 (some Jvm.ClassFile.FieldType.long) ∈ mtb := mk_s5 53 rfl rfl
theorem k_1147 : Cond.constantLong RX3 29 (Int64.ofInt (-9223372036854775808)) ∈ mtb := mk_s5 54 rfl rfl
theorem k_1148 : Cond.methodLink RX3 31 yX3_joined ∈ mtb := mk_s5 55 rfl rfl
theorem k_1149 : Cond.static yX3_joined ∈ mtb := mk_s5 56 rfl rfl
theorem k_1150 : Cond.code yX3_joined cX3_joined 5 (some Jvm.ClassFile.FieldType.long) ∈ mtb := mk_s5 57 rfl rfl
theorem k_1151 : Cond.methodLink RX3 39 yJ9_abs_067f4 ∈ mtb := mk_s5 58 rfl rfl
theorem k_1152 : Cond.static yJ9_abs_067f4 ∈ mtb := mk_s5 59 rfl rfl
theorem k_1153 : Cond.code yJ9_abs_067f4 cJ9_abs_067f4 2 (some Jvm.ClassFile.FieldType.long) ∈ mtb := mk_s5 60 rfl rfl
theorem k_1154 : Cond.constantLong RX3 35 (Int64.ofInt 1000000000000) ∈ mtb := mk_s5 61 rfl rfl
theorem k_1155 : Cond.constantLong RX3 37 (Int64.ofInt (-1000000000000)) ∈ mtb := mk_s5 62 rfl rfl
theorem k_1160 : Cond.methodLink RX13 227 yX8_cellAhead ∈ mtb := mk_s5 67 rfl rfl
theorem k_1161 : Cond.instanceMethod yX8_cellAhead ∈ mtb := mk_s5 68 rfl rfl
theorem k_1162 : Cond.selects RX8 yX8_cellAhead yX8_cellAhead ∈ mtb := mk_s5 69 rfl rfl
theorem k_1163 : Cond.code yX8_cellAhead cX8_cellAhead 3 (some Jvm.ClassFile.FieldType.int) ∈ mtb := mk_s5 70 rfl rfl
theorem k_1164 : Cond.methodLink RX8 23 yX8_follow ∈ mtb := mk_s5 71 rfl rfl
theorem k_1166 : Cond.instanceMethod yX8_follow ∈ mtb := mk_s5 73 rfl rfl
theorem k_1167 : Cond.code yX8_follow cX8_follow 5 none ∈ mtb := mk_s5 74 rfl rfl
theorem k_1168 : Cond.methodLink RX8 82 yX7_orZero ∈ mtb := mk_s5 75 rfl rfl
theorem k_1169 : Cond.methodLink RX8 76 yX8_next ∈ mtb := mk_s5 76 rfl rfl
theorem k_1171 : Cond.instanceMethod yX8_next ∈ mtb := mk_s5 78 rfl rfl
theorem k_1172 : Cond.code yX8_next cX8_next 12 (some Jvm.ClassFile.FieldType.int) ∈ mtb := mk_s5 79 rfl rfl
theorem k_1173 : Cond.methodLink RX8 89 yX8_drive ∈ mtb := mk_s5 80 rfl rfl
theorem k_1178 : Cond.methodLink RX13 230 yX8_arrival ∈ mtb := mk_s5 85 rfl rfl
theorem k_1179 : Cond.instanceMethod yX8_arrival ∈ mtb := mk_s5 86 rfl rfl
theorem k_1180 : Cond.selects RX8 yX8_arrival yX8_arrival ∈ mtb := mk_s5 87 rfl rfl
theorem k_1181 : Cond.code yX8_arrival cX8_arrival 3 (some Jvm.ClassFile.FieldType.int) ∈ mtb := mk_s5 88 rfl rfl
theorem k_1182 : Cond.methodLink RX8 27 yX8_arrivalOnPath ∈ mtb := mk_s5 89 rfl rfl
theorem k_1184 : Cond.instanceMethod yX8_arrivalOnPath ∈ mtb := mk_s5 91 rfl rfl
theorem k_1185 : Cond.code yX8_arrivalOnPath cX8_arrivalOnPath 4 (some Jvm.ClassFile.FieldType.int) ∈ mtb := mk_s5 92 rfl rfl
theorem k_1190 : Cond.methodLink RX13 233 yX8_firstSkater ∈ mtb := mk_s5 97 rfl rfl
theorem k_1191 : Cond.instanceMethod yX8_firstSkater ∈ mtb := mk_s5 98 rfl rfl
theorem k_1192 : Cond.selects RX8 yX8_firstSkater yX8_firstSkater ∈ mtb := mk_s5 99 rfl rfl
theorem k_1193 : Cond.code yX8_firstSkater cX8_firstSkater 6 (some Jvm.ClassFile.FieldType.int) ∈ mtb := mk_s5 100 rfl rfl
theorem k_1198 : Cond.methodLink RX13 236 yX8_seekLie ∈ mtb := mk_s5 105 rfl rfl
theorem k_1199 : Cond.instanceMethod yX8_seekLie ∈ mtb := mk_s5 106 rfl rfl
theorem k_1200 : Cond.selects RX8 yX8_seekLie yX8_seekLie ∈ mtb := mk_s5 107 rfl rfl
theorem k_1201 : Cond.code yX8_seekLie cX8_seekLie 9 (some Jvm.ClassFile.FieldType.int) ∈ mtb := mk_s5 108 rfl rfl
theorem k_1202 : Cond.methodLink RX8 49 yX5_cells ∈ mtb := mk_s5 109 rfl rfl
theorem k_1203 : Cond.methodLink RX8 53 yX8_firstSeen ∈ mtb := mk_s5 110 rfl rfl
theorem k_1205 : Cond.instanceMethod yX8_firstSeen ∈ mtb := mk_s5 112 rfl rfl
theorem k_1206 : Cond.code yX8_firstSeen cX8_firstSeen 6 (some Jvm.ClassFile.FieldType.int) ∈ mtb := mk_s5 113 rfl rfl
theorem k_1207 : Cond.methodLink RX8 67 yX6_farOf ∈ mtb := mk_s5 114 rfl rfl
theorem k_1208 : Cond.methodLink RX8 57 yX8_isLie ∈ mtb := mk_s5 115 rfl rfl
theorem k_1210 : Cond.instanceMethod yX8_isLie ∈ mtb := mk_s5 117 rfl rfl
theorem k_1211 : Cond.code yX8_isLie cX8_isLie 9 (some Jvm.ClassFile.FieldType.boolean) ∈ mtb := mk_s5 118 rfl rfl
theorem k_1212 : Cond.methodLink RX8 72 yX6_pour ∈ mtb := mk_s5 119 rfl rfl
theorem k_1217 : Cond.methodLink RX13 246 yX1_isFull ∈ mtb := mk_s5 124 rfl rfl
theorem k_1218 : Cond.methodLink RX13 249 yX11_addDrop ∈ mtb := mk_s5 125 rfl rfl
theorem k_1219 : Cond.instanceMethod yX11_addDrop ∈ mtb := mk_s5 126 rfl rfl
theorem k_1220 : Cond.selects RX11 yX11_addDrop yX11_addDrop ∈ mtb := mk_s5 127 rfl rfl
theorem k_1221 : Cond.code yX11_addDrop cX11_addDrop 4 (some Jvm.ClassFile.FieldType.int) ∈ mtb := mk_s5 128 rfl rfl
theorem k_1222 : Cond.methodLink RX11 61 yX1_add ∈ mtb := mk_s5 129 rfl rfl
theorem k_1223 : Cond.methodLink RX11 65 yX11_remember ∈ mtb := mk_s5 130 rfl rfl
theorem k_1225 : Cond.instanceMethod yX11_remember ∈ mtb := mk_s5 132 rfl rfl
theorem k_1226 : Cond.code yX11_remember cX11_remember 3 none ∈ mtb := mk_s5 133 rfl rfl
theorem k_1231 : Cond.methodLink RX13 253 yX11_cutReeds ∈ mtb := mk_s5 138 rfl rfl
theorem k_1232 : Cond.instanceMethod yX11_cutReeds ∈ mtb := mk_s5 139 rfl rfl
theorem k_1233 : Cond.selects RX11 yX11_cutReeds yX11_cutReeds ∈ mtb := mk_s5 140 rfl rfl
theorem k_1234 : Cond.code yX11_cutReeds cX11_cutReeds 2 none ∈ mtb := mk_s5 141 rfl rfl
theorem k_1235 : Cond.constantLong RX11 71 (Int64.ofInt (-1)) ∈ mtb := mk_s5 142 rfl rfl
theorem k_1236 : Cond.methodLink RX11 73 yX11_changeReeds ∈ mtb := mk_s5 143 rfl rfl
theorem k_1238 : Cond.instanceMethod yX11_changeReeds ∈ mtb := mk_s5 145 rfl rfl
theorem k_1239 : Cond.code yX11_changeReeds cX11_changeReeds 3 none ∈ mtb := mk_s5 146 rfl rfl
theorem k_1244 : Cond.methodLink RX13 256 yX11_undoLatest ∈ mtb := mk_s5 151 rfl rfl
theorem k_1245 : Cond.instanceMethod yX11_undoLatest ∈ mtb := mk_s5 152 rfl rfl
theorem k_1246 : Cond.selects RX11 yX11_undoLatest yX11_undoLatest ∈ mtb := mk_s5 153 rfl rfl
theorem k_1247 : Cond.code yX11_undoLatest cX11_undoLatest 2 (some Jvm.ClassFile.FieldType.int) ∈ mtb := mk_s5 154 rfl rfl
theorem k_1248 : Cond.methodLink RX11 77 yX1_removeLast ∈ mtb := mk_s5 155 rfl rfl
theorem k_1249 : Cond.instanceMethod yX1_removeLast ∈ mtb := mk_s5 156 rfl rfl
theorem k_1250 : Cond.selects RX1 yX1_removeLast yX1_removeLast ∈ mtb := mk_s5 157 rfl rfl
theorem k_1251 : Cond.code yX1_removeLast cX1_removeLast 1 none ∈ mtb := mk_s5 158 rfl rfl
theorem k_1256 : Cond.methodLink RX13 260 yX4_addSight ∈ mtb := mk_s5 163 rfl rfl
theorem k_1257 : Cond.instanceMethod yX4_addSight ∈ mtb := mk_s5 164 rfl rfl
theorem k_1258 : Cond.selects RX4 yX4_addSight yX4_addSight ∈ mtb := mk_s5 165 rfl rfl
theorem k_1259 : Cond.code yX4_addSight cX4_addSight 4 (some Jvm.ClassFile.FieldType.int) ∈ mtb := mk_s5 166 rfl rfl
theorem k_1264 : Cond.methodLink RX13 263 yX4_addStrike ∈ mtb := mk_s5 171 rfl rfl
theorem k_1265 : Cond.instanceMethod yX4_addStrike ∈ mtb := mk_s5 172 rfl rfl
theorem k_1266 : Cond.selects RX4 yX4_addStrike yX4_addStrike ∈ mtb := mk_s5 173 rfl rfl
theorem k_1267 : Cond.code yX4_addStrike cX4_addStrike 2 (some Jvm.ClassFile.FieldType.int) ∈ mtb := mk_s5 174 rfl rfl
theorem k_1272 : Cond.methodLink RX13 266 yX4_limitTo ∈ mtb := mk_s5 179 rfl rfl
theorem k_1273 : Cond.instanceMethod yX4_limitTo ∈ mtb := mk_s5 180 rfl rfl
theorem k_1274 : Cond.selects RX4 yX4_limitTo yX4_limitTo ∈ mtb := mk_s5 181 rfl rfl
theorem k_1275 : Cond.code yX4_limitTo cX4_limitTo 2 (some Jvm.ClassFile.FieldType.boolean) ∈ mtb := mk_s5 182 rfl rfl
theorem k_1280 : Cond.methodLink RX13 269 yX2_walkTales ∈ mtb := mk_s5 187 rfl rfl
theorem k_1281 : Cond.instanceMethod yX2_walkTales ∈ mtb := mk_s5 188 rfl rfl
theorem k_1282 : Cond.selects RX2 yX2_walkTales yX2_walkTales ∈ mtb := mk_s5 189 rfl rfl
theorem k_1283 : Cond.code yX2_walkTales cX2_walkTales 8 (some Jvm.ClassFile.FieldType.int) ∈ mtb := mk_s5 190 rfl rfl
theorem k_1284 : Cond.methodLink RX2 45 yX4_knownSights ∈ mtb := mk_s5 191 rfl rfl
theorem k_1285 : Cond.instanceMethod yX4_knownSights ∈ mtb := mk_s5 192 rfl rfl
theorem k_1286 : Cond.selects RX4 yX4_knownSights yX4_knownSights ∈ mtb := mk_s5 193 rfl rfl
theorem k_1287 : Cond.code yX4_knownSights cX4_knownSights 3 (some (Jvm.ClassFile.FieldType.object "PondReader$Row")) ∈ mtb := mk_s5 194 rfl rfl
theorem k_1288 : Cond.methodLink RX4 44 yX4_knownBy ∈ mtb := mk_s5 195 rfl rfl
theorem k_1289 : Cond.instanceMethod yX4_knownBy ∈ mtb := mk_s5 196 rfl rfl
theorem k_1290 : Cond.selects RX4 yX4_knownBy yX4_knownBy ∈ mtb := mk_s5 197 rfl rfl
theorem k_1291 : Cond.code yX4_knownBy cX4_knownBy 1 (some Jvm.ClassFile.FieldType.int) ∈ mtb := mk_s5 198 rfl rfl
theorem k_1292 : Cond.methodLink RX4 48 yJ9_min_7cf53 ∈ mtb := mk_s5 199 rfl rfl
theorem k_1293 : Cond.methodLink RX4 54 yX7_clear ∈ mtb := mk_s5 200 rfl rfl
theorem k_1294 : Cond.methodLink RX4 57 yX7_add ∈ mtb := mk_s5 201 rfl rfl
theorem k_1295 : Cond.methodLink RX2 51 yX1_clear ∈ mtb := mk_s5 202 rfl rfl
theorem k_1296 : Cond.methodLink RX2 72 yX2_walkCells ∈ mtb := mk_s5 203 rfl rfl
theorem k_1298 : Cond.instanceMethod yX2_walkCells ∈ mtb := mk_s5 205 rfl rfl
theorem k_1299 : Cond.code yX2_walkCells cX2_walkCells 8 (some Jvm.ClassFile.FieldType.int) ∈ mtb := mk_s5 206 rfl rfl
theorem k_1300 : Cond.methodLink RX2 87 yX5_cells ∈ mtb := mk_s5 207 rfl rfl
theorem k_1301 : Cond.methodLink RX2 91 yX5_isWet ∈ mtb := mk_s5 208 rfl rfl
theorem k_1302 : Cond.methodLink RX2 95 yX2_isTale ∈ mtb := mk_s5 209 rfl rfl
theorem k_1304 : Cond.instanceMethod yX2_isTale ∈ mtb := mk_s5 211 rfl rfl
theorem k_1305 : Cond.code yX2_isTale cX2_isTale 9 (some Jvm.ClassFile.FieldType.boolean) ∈ mtb := mk_s5 212 rfl rfl
theorem k_1306 : Cond.methodLink RX2 79 yX7_orZero ∈ mtb := mk_s5 213 rfl rfl
theorem k_1307 : Cond.methodLink RX2 103 yJ9_min_7cf53 ∈ mtb := mk_s5 214 rfl rfl
theorem k_1308 : Cond.methodLink RX2 121 yX6_alone ∈ mtb := mk_s5 215 rfl rfl
theorem k_1309 : Cond.instanceMethod yX6_alone ∈ mtb := mk_s5 216 rfl rfl
theorem k_1310 : Cond.selects RX6 yX6_alone yX6_alone ∈ mtb := mk_s5 217 rfl rfl
theorem k_1311 : Cond.code yX6_alone cX6_alone 11 (some Jvm.ClassFile.FieldType.int) ∈ mtb := mk_s5 218 rfl rfl
theorem k_1312 : Cond.methodLink RX6 172 yX6_farBy ∈ mtb := mk_s5 219 rfl rfl
theorem k_1314 : Cond.instanceMethod yX6_farBy ∈ mtb := mk_s5 221 rfl rfl
theorem k_1315 : Cond.code yX6_farBy cX6_farBy 6 (some Jvm.ClassFile.FieldType.int) ∈ mtb := mk_s5 222 rfl rfl
theorem k_1316 : Cond.methodLink RX2 99 yX1_add ∈ mtb := mk_s5 223 rfl rfl
theorem k_1317 : Cond.methodLink RX2 83 yX1_copyOf ∈ mtb := mk_s5 224 rfl rfl
theorem k_1330 : Cond.methodLink RX13 278 yX2_fittingShores ∈ mtb := mk_s5 237 rfl rfl
theorem k_1331 : Cond.instanceMethod yX2_fittingShores ∈ mtb := mk_s5 238 rfl rfl
theorem k_1332 : Cond.selects RX2 yX2_fittingShores yX2_fittingShores ∈ mtb := mk_s5 239 rfl rfl
theorem k_1333 : Cond.code yX2_fittingShores cX2_fittingShores 5 (some Jvm.ClassFile.FieldType.int) ∈ mtb := mk_s6 0 rfl rfl
theorem k_1334 : Cond.methodLink RX2 133 yX2_fitsBy ∈ mtb := mk_s6 1 rfl rfl
theorem k_1336 : Cond.instanceMethod yX2_fitsBy ∈ mtb := mk_s6 3 rfl rfl
theorem k_1337 : Cond.code yX2_fitsBy cX2_fitsBy 6 (some Jvm.ClassFile.FieldType.boolean) ∈ mtb := mk_s6 4 rfl rfl
theorem k_1338 : Cond.methodLink RX2 141 yX2_riseBy ∈ mtb := mk_s6 5 rfl rfl
theorem k_1340 : Cond.instanceMethod yX2_riseBy ∈ mtb := mk_s6 7 rfl rfl
theorem k_1341 : Cond.code yX2_riseBy cX2_riseBy 7 (some Jvm.ClassFile.FieldType.int) ∈ mtb := mk_s6 8 rfl rfl
theorem k_1342 : Cond.methodLink RX2 137 yX5_shoresOf ∈ mtb := mk_s6 9 rfl rfl
theorem k_1347 : Cond.methodLink RX13 281 yX2_fewestCorks ∈ mtb := mk_s6 14 rfl rfl
theorem k_1348 : Cond.instanceMethod yX2_fewestCorks ∈ mtb := mk_s6 15 rfl rfl
theorem k_1349 : Cond.selects RX2 yX2_fewestCorks yX2_fewestCorks ∈ mtb := mk_s6 16 rfl rfl
theorem k_1350 : Cond.code yX2_fewestCorks cX2_fewestCorks 8 (some Jvm.ClassFile.FieldType.int) ∈ mtb := mk_s6 17 rfl rfl
theorem k_1351 : Cond.methodLink RX2 154 yX2_gatherCompared ∈ mtb := mk_s6 18 rfl rfl
theorem k_1353 : Cond.instanceMethod yX2_gatherCompared ∈ mtb := mk_s6 20 rfl rfl
theorem k_1354 : Cond.code yX2_gatherCompared cX2_gatherCompared 10 (some Jvm.ClassFile.FieldType.boolean) ∈ mtb := mk_s6 21 rfl rfl
theorem k_1355 : Cond.constantLong RX2 174 (Int64.ofInt 255) ∈ mtb := mk_s6 22 rfl rfl
theorem k_1356 : Cond.methodLink RX2 160 yX2_showCompared ∈ mtb := mk_s6 23 rfl rfl
theorem k_1358 : Cond.instanceMethod yX2_showCompared ∈ mtb := mk_s6 25 rfl rfl
theorem k_1359 : Cond.code yX2_showCompared cX2_showCompared 3 none ∈ mtb := mk_s6 26 rfl rfl
theorem k_1360 : Cond.methodLink RX2 176 yX2_showRow ∈ mtb := mk_s6 27 rfl rfl
theorem k_1362 : Cond.instanceMethod yX2_showRow ∈ mtb := mk_s6 29 rfl rfl
theorem k_1363 : Cond.code yX2_showRow cX2_showRow 7 none ∈ mtb := mk_s6 30 rfl rfl
theorem k_1364 : Cond.methodLink RX2 163 yX2_markTeller ∈ mtb := mk_s6 31 rfl rfl
theorem k_1366 : Cond.instanceMethod yX2_markTeller ∈ mtb := mk_s6 33 rfl rfl
theorem k_1367 : Cond.code yX2_markTeller cX2_markTeller 4 none ∈ mtb := mk_s6 34 rfl rfl
theorem k_1368 : Cond.methodLink RX2 180 yX2_rowsDiffer ∈ mtb := mk_s6 35 rfl rfl
theorem k_1370 : Cond.instanceMethod yX2_rowsDiffer ∈ mtb := mk_s6 37 rfl rfl
theorem k_1371 : Cond.code yX2_rowsDiffer cX2_rowsDiffer 4 (some Jvm.ClassFile.FieldType.boolean) ∈ mtb := mk_s6 38 rfl rfl
theorem k_1372 : Cond.methodLink RX2 166 yJ6_bitCount_0f7a4 ∈ mtb := mk_s6 39 rfl rfl
theorem k_1373 : Cond.static yJ6_bitCount_0f7a4 ∈ mtb := mk_s6 40 rfl rfl
theorem k_1374 : Cond.code yJ6_bitCount_0f7a4 cJ6_bitCount_0f7a4 1 (some Jvm.ClassFile.FieldType.int) ∈ mtb := mk_s6 41 rfl rfl
theorem k_1375 : Cond.constant RJ6 265 (Int32.ofInt 1431655765) ∈ mtb := mk_s6 42 rfl rfl
theorem k_1376 : Cond.constant RJ6 266 (Int32.ofInt 858993459) ∈ mtb := mk_s6 43 rfl rfl
theorem k_1377 : Cond.constant RJ6 267 (Int32.ofInt 252645135) ∈ mtb := mk_s6 44 rfl rfl
theorem k_1378 : Cond.methodLink RX2 171 yX2_tellsApart ∈ mtb := mk_s6 45 rfl rfl
theorem k_1380 : Cond.instanceMethod yX2_tellsApart ∈ mtb := mk_s6 47 rfl rfl
theorem k_1381 : Cond.code yX2_tellsApart cX2_tellsApart 4 (some Jvm.ClassFile.FieldType.boolean) ∈ mtb := mk_s6 48 rfl rfl
theorem k_1386 : Cond.methodLink RX13 285 yX2_seekNearest ∈ mtb := mk_s6 53 rfl rfl
theorem k_1387 : Cond.instanceMethod yX2_seekNearest ∈ mtb := mk_s6 54 rfl rfl
theorem k_1388 : Cond.selects RX2 yX2_seekNearest yX2_seekNearest ∈ mtb := mk_s6 55 rfl rfl
theorem k_1389 : Cond.code yX2_seekNearest cX2_seekNearest 8 none ∈ mtb := mk_s6 56 rfl rfl
theorem k_1390 : Cond.methodLink RX2 190 yX2_differenceFrom ∈ mtb := mk_s6 57 rfl rfl
theorem k_1392 : Cond.instanceMethod yX2_differenceFrom ∈ mtb := mk_s6 59 rfl rfl
theorem k_1393 : Cond.code yX2_differenceFrom cX2_differenceFrom 8 (some Jvm.ClassFile.FieldType.int) ∈ mtb := mk_s6 60 rfl rfl
theorem k_1394 : Cond.methodLink RX2 193 yJ9_abs_0f7a4 ∈ mtb := mk_s6 61 rfl rfl
theorem k_1395 : Cond.static yJ9_abs_0f7a4 ∈ mtb := mk_s6 62 rfl rfl
theorem k_1396 : Cond.code yJ9_abs_0f7a4 cJ9_abs_0f7a4 1 (some Jvm.ClassFile.FieldType.int) ∈ mtb := mk_s6 63 rfl rfl
theorem k_1401 : Cond.constantLong RX13 295 (Int64.ofInt (-1)) ∈ mtb := mk_s6 68 rfl rfl
theorem k_1402 : Cond.methodLink RX13 297 yX2_stillCells ∈ mtb := mk_s6 69 rfl rfl
theorem k_1403 : Cond.instanceMethod yX2_stillCells ∈ mtb := mk_s6 70 rfl rfl
theorem k_1404 : Cond.selects RX2 yX2_stillCells yX2_stillCells ∈ mtb := mk_s6 71 rfl rfl
theorem k_1405 : Cond.code yX2_stillCells cX2_stillCells 13 (some Jvm.ClassFile.FieldType.long) ∈ mtb := mk_s6 72 rfl rfl
theorem k_1410 : Cond.methodLink RX13 301 yX2_drawsAbove ∈ mtb := mk_s6 77 rfl rfl
theorem k_1411 : Cond.instanceMethod yX2_drawsAbove ∈ mtb := mk_s6 78 rfl rfl
theorem k_1412 : Cond.selects RX2 yX2_drawsAbove yX2_drawsAbove ∈ mtb := mk_s6 79 rfl rfl
theorem k_1413 : Cond.code yX2_drawsAbove cX2_drawsAbove 11 (some Jvm.ClassFile.FieldType.int) ∈ mtb := mk_s6 80 rfl rfl
theorem k_1414 : Cond.methodLink RX2 200 yX2_drawnRise ∈ mtb := mk_s6 81 rfl rfl
theorem k_1416 : Cond.instanceMethod yX2_drawnRise ∈ mtb := mk_s6 83 rfl rfl
theorem k_1417 : Cond.code yX2_drawnRise cX2_drawnRise 6 (some Jvm.ClassFile.FieldType.int) ∈ mtb := mk_s6 84 rfl rfl
theorem k_1418 : Cond.methodLink RX2 204 yX2_drawNumber ∈ mtb := mk_s6 85 rfl rfl
theorem k_1420 : Cond.instanceMethod yX2_drawNumber ∈ mtb := mk_s6 87 rfl rfl
theorem k_1421 : Cond.code yX2_drawNumber cX2_drawNumber 2 (some Jvm.ClassFile.FieldType.int) ∈ mtb := mk_s6 88 rfl rfl
theorem k_1422 : Cond.constantLong RX2 207 (Int64.ofInt 1103515245) ∈ mtb := mk_s6 89 rfl rfl
theorem k_1423 : Cond.constantLong RX2 209 (Int64.ofInt 12345) ∈ mtb := mk_s6 90 rfl rfl
theorem k_1424 : Cond.constantLong RX2 211 (Int64.ofInt 2147483647) ∈ mtb := mk_s6 91 rfl rfl
theorem k_1425 : Cond.constantLong RX2 213 (Int64.ofInt 65536) ∈ mtb := mk_s6 92 rfl rfl
theorem k_1430 : Cond.methodLink RX13 305 yX11_keepImage ∈ mtb := mk_s6 97 rfl rfl
theorem k_1431 : Cond.instanceMethod yX11_keepImage ∈ mtb := mk_s6 98 rfl rfl
theorem k_1432 : Cond.selects RX11 yX11_keepImage yX11_keepImage ∈ mtb := mk_s6 99 rfl rfl
theorem k_1433 : Cond.code yX11_keepImage cX11_keepImage 1 (some Jvm.ClassFile.FieldType.int) ∈ mtb := mk_s6 100 rfl rfl
theorem k_1438 : Cond.methodLink RX13 308 yX11_takeImage ∈ mtb := mk_s6 105 rfl rfl
theorem k_1439 : Cond.instanceMethod yX11_takeImage ∈ mtb := mk_s6 106 rfl rfl
theorem k_1440 : Cond.selects RX11 yX11_takeImage yX11_takeImage ∈ mtb := mk_s6 107 rfl rfl
theorem k_1441 : Cond.code yX11_takeImage cX11_takeImage 1 (some Jvm.ClassFile.FieldType.int) ∈ mtb := mk_s6 108 rfl rfl
theorem k_1446 : Cond.methodLink RX13 322 yX4_knownBy ∈ mtb := mk_s6 113 rfl rfl
theorem k_1447 : Cond.methodLink RX13 332 yJ13_bitCount_95d88 ∈ mtb := mk_s6 114 rfl rfl
theorem k_1546 : Cond.methodLink RX14 142 yX14_plain ∈ mtb := mk_s6 213 rfl rfl
theorem k_1548 : Cond.instanceMethod yX14_plain ∈ mtb := mk_s6 215 rfl rfl
theorem k_1549 : Cond.code yX14_plain cX14_plain 2 none ∈ mtb := mk_s6 216 rfl rfl
theorem k_1550 : Cond.methodLink RX14 145 yX14_keepText ∈ mtb := mk_s6 217 rfl rfl
theorem k_1552 : Cond.instanceMethod yX14_keepText ∈ mtb := mk_s6 219 rfl rfl
theorem k_1553 : Cond.code yX14_keepText cX14_keepText 2 none ∈ mtb := mk_s6 220 rfl rfl
theorem k_1554 : Cond.methodLink RX14 294 yX14_copies ∈ mtb := mk_s6 221 rfl rfl
theorem k_1555 : Cond.static yX14_copies ∈ mtb := mk_s6 222 rfl rfl
theorem k_1556 : Cond.code yX14_copies cX14_copies 3 none ∈ mtb := mk_s6 223 rfl rfl
theorem k_1557 : Cond.methodLink RX14 310 yX14_layWays ∈ mtb := mk_s6 224 rfl rfl
theorem k_1559 : Cond.instanceMethod yX14_layWays ∈ mtb := mk_s6 226 rfl rfl
theorem k_1560 : Cond.code yX14_layWays cX14_layWays 3 none ∈ mtb := mk_s6 227 rfl rfl
theorem k_1561 : Cond.methodLink RX14 432 yX14_isWater ∈ mtb := mk_s6 228 rfl rfl
theorem k_1563 : Cond.instanceMethod yX14_isWater ∈ mtb := mk_s6 230 rfl rfl
theorem k_1564 : Cond.code yX14_isWater cX14_isWater 2 (some Jvm.ClassFile.FieldType.boolean) ∈ mtb := mk_s6 231 rfl rfl
theorem k_1565 : Cond.methodLink RX14 429 yX14_isCell ∈ mtb := mk_s6 232 rfl rfl
theorem k_1567 : Cond.instanceMethod yX14_isCell ∈ mtb := mk_s6 234 rfl rfl
theorem k_1568 : Cond.code yX14_isCell cX14_isCell 2 (some Jvm.ClassFile.FieldType.boolean) ∈ mtb := mk_s6 235 rfl rfl
theorem k_1569 : Cond.methodLink RX14 426 yX14_cells ∈ mtb := mk_s6 236 rfl rfl
theorem k_1571 : Cond.instanceMethod yX14_cells ∈ mtb := mk_s6 238 rfl rfl
theorem k_1572 : Cond.code yX14_cells cX14_cells 1 (some Jvm.ClassFile.FieldType.int) ∈ mtb := mk_s6 239 rfl rfl
theorem k_1573 : Cond.methodLink RX14 435 yX14_layFar ∈ mtb := mk_s7 0 rfl rfl
theorem k_1575 : Cond.instanceMethod yX14_layFar ∈ mtb := mk_s7 2 rfl rfl
theorem k_1576 : Cond.code yX14_layFar cX14_layFar 8 none ∈ mtb := mk_s7 3 rfl rfl
theorem k_1577 : Cond.methodLink RX14 439 yX14_nextTo ∈ mtb := mk_s7 4 rfl rfl
theorem k_1579 : Cond.instanceMethod yX14_nextTo ∈ mtb := mk_s7 6 rfl rfl
theorem k_1580 : Cond.code yX14_nextTo cX14_nextTo 5 (some Jvm.ClassFile.FieldType.int) ∈ mtb := mk_s7 7 rfl rfl
theorem k_1581 : Cond.methodLink RX14 313 yX14_plainShores ∈ mtb := mk_s7 8 rfl rfl
theorem k_1583 : Cond.instanceMethod yX14_plainShores ∈ mtb := mk_s7 10 rfl rfl
theorem k_1584 : Cond.code yX14_plainShores cX14_plainShores 2 none ∈ mtb := mk_s7 11 rfl rfl
theorem k_1585 : Cond.fieldLink RX14 7 "PondReaderModel" "tape" "[I" ∈ mtb := mk_s7 12 rfl rfl
theorem k_1586 : Cond.fieldLink RX14 151 "PondReaderModel" "tapeSize" "I" ∈ mtb := mk_s7 13 rfl rfl
theorem k_1587 : Cond.fieldLink RX14 148 "PondReaderModel" "thrown" "I" ∈ mtb := mk_s7 14 rfl rfl
theorem k_1588 : Cond.fieldLink RX14 13 "PondReaderModel" "words" "[I" ∈ mtb := mk_s7 15 rfl rfl
theorem k_1589 : Cond.fieldLink RX14 154 "PondReaderModel" "fault" "I" ∈ mtb := mk_s7 16 rfl rfl
theorem k_1590 : Cond.fieldLink RX14 16 "PondReaderModel" "faultPlace" "I" ∈ mtb := mk_s7 17 rfl rfl
theorem k_1591 : Cond.fieldLink RX14 160 "PondReaderModel" "stop" "I" ∈ mtb := mk_s7 18 rfl rfl
theorem k_1592 : Cond.fieldLink RX14 163 "PondReaderModel" "next" "I" ∈ mtb := mk_s7 19 rfl rfl
theorem k_1593 : Cond.fieldLink RX14 166 "PondReaderModel" "kind" "I" ∈ mtb := mk_s7 20 rfl rfl
theorem k_1594 : Cond.fieldLink RX14 177 "PondReaderModel" "which" "I" ∈ mtb := mk_s7 21 rfl rfl
theorem k_1595 : Cond.fieldLink RX14 157 "PondReaderModel" "at" "I" ∈ mtb := mk_s7 22 rfl rfl
theorem k_1596 : Cond.fieldLink RX14 196 "PondReaderModel" "got" "I" ∈ mtb := mk_s7 23 rfl rfl
theorem k_1597 : Cond.fieldLink RX14 255 "PondReaderModel" "wide" "I" ∈ mtb := mk_s7 24 rfl rfl
theorem k_1598 : Cond.fieldLink RX14 258 "PondReaderModel" "high" "I" ∈ mtb := mk_s7 25 rfl rfl
theorem k_1599 : Cond.fieldLink RX14 261 "PondReaderModel" "kinds" "I" ∈ mtb := mk_s7 26 rfl rfl
theorem k_1600 : Cond.fieldLink RX14 264 "PondReaderModel" "corks" "I" ∈ mtb := mk_s7 27 rfl rfl
theorem k_1601 : Cond.fieldLink RX14 267 "PondReaderModel" "skaters" "I" ∈ mtb := mk_s7 28 rfl rfl
theorem k_1602 : Cond.fieldLink RX14 270 "PondReaderModel" "dropsTold" "I" ∈ mtb := mk_s7 29 rfl rfl
theorem k_1603 : Cond.fieldLink RX14 273 "PondReaderModel" "shores" "I" ∈ mtb := mk_s7 30 rfl rfl
theorem k_1604 : Cond.fieldLink RX14 276 "PondReaderModel" "mays" "I" ∈ mtb := mk_s7 31 rfl rfl
theorem k_1605 : Cond.fieldLink RX14 279 "PondReaderModel" "knots" "I" ∈ mtb := mk_s7 32 rfl rfl
theorem k_1606 : Cond.fieldLink RX14 282 "PondReaderModel" "loss" "I" ∈ mtb := mk_s7 33 rfl rfl
theorem k_1607 : Cond.fieldLink RX14 285 "PondReaderModel" "thick" "I" ∈ mtb := mk_s7 34 rfl rfl
theorem k_1608 : Cond.fieldLink RX14 288 "PondReaderModel" "sent" "I" ∈ mtb := mk_s7 35 rfl rfl
theorem k_1609 : Cond.fieldLink RX14 291 "PondReaderModel" "lawTold" "Z" ∈ mtb := mk_s7 36 rfl rfl
theorem k_1610 : Cond.fieldLink RX14 209 "PondReaderModel" "wideRead" "I" ∈ mtb := mk_s7 37 rfl rfl
theorem k_1611 : Cond.fieldLink RX14 212 "PondReaderModel" "highRead" "I" ∈ mtb := mk_s7 38 rfl rfl
theorem k_1612 : Cond.fieldLink RX14 215 "PondReaderModel" "kindsRead" "I" ∈ mtb := mk_s7 39 rfl rfl
theorem k_1613 : Cond.fieldLink RX14 218 "PondReaderModel" "corksRead" "I" ∈ mtb := mk_s7 40 rfl rfl
theorem k_1614 : Cond.fieldLink RX14 221 "PondReaderModel" "skatersRead" "I" ∈ mtb := mk_s7 41 rfl rfl
theorem k_1615 : Cond.fieldLink RX14 224 "PondReaderModel" "dropsRead" "I" ∈ mtb := mk_s7 42 rfl rfl
theorem k_1616 : Cond.fieldLink RX14 227 "PondReaderModel" "shoresRead" "I" ∈ mtb := mk_s7 43 rfl rfl
theorem k_1617 : Cond.fieldLink RX14 230 "PondReaderModel" "maysRead" "I" ∈ mtb := mk_s7 44 rfl rfl
theorem k_1618 : Cond.fieldLink RX14 233 "PondReaderModel" "knotsRead" "I" ∈ mtb := mk_s7 45 rfl rfl
theorem k_1619 : Cond.fieldLink RX14 236 "PondReaderModel" "landsRead" "I" ∈ mtb := mk_s7 46 rfl rfl
theorem k_1620 : Cond.fieldLink RX14 239 "PondReaderModel" "reedsRead" "I" ∈ mtb := mk_s7 47 rfl rfl
theorem k_1621 : Cond.fieldLink RX14 245 "PondReaderModel" "pondTold" "Z" ∈ mtb := mk_s7 48 rfl rfl
theorem k_1622 : Cond.fieldLink RX14 249 "PondReaderModel" "cellsTold" "Z" ∈ mtb := mk_s7 49 rfl rfl
theorem k_1623 : Cond.fieldLink RX14 252 "PondReaderModel" "lawRead" "Z" ∈ mtb := mk_s7 50 rfl rfl
theorem k_1624 : Cond.fieldLink RX14 20 "PondReaderModel" "once" "[I" ∈ mtb := mk_s7 51 rfl rfl
theorem k_1625 : Cond.fieldLink RX14 23 "PondReaderModel" "onceTold" "[Z" ∈ mtb := mk_s7 52 rfl rfl
theorem k_1626 : Cond.fieldLink RX14 27 "PondReaderModel" "ground" "[I" ∈ mtb := mk_s7 53 rfl rfl
theorem k_1627 : Cond.fieldLink RX14 30 "PondReaderModel" "sends" "[Z" ∈ mtb := mk_s7 54 rfl rfl
theorem k_1628 : Cond.fieldLink RX14 33 "PondReaderModel" "used" "[Z" ∈ mtb := mk_s7 55 rfl rfl
theorem k_1629 : Cond.fieldLink RX14 36 "PondReaderModel" "shore" "[I" ∈ mtb := mk_s7 56 rfl rfl
theorem k_1630 : Cond.fieldLink RX14 39 "PondReaderModel" "kindName" "[I" ∈ mtb := mk_s7 57 rfl rfl
theorem k_1631 : Cond.fieldLink RX14 42 "PondReaderModel" "rises" "[I" ∈ mtb := mk_s7 58 rfl rfl
theorem k_1632 : Cond.fieldLink RX14 45 "PondReaderModel" "odds" "[I" ∈ mtb := mk_s7 59 rfl rfl
theorem k_1633 : Cond.fieldLink RX14 48 "PondReaderModel" "riseOf" "[I" ∈ mtb := mk_s7 60 rfl rfl
theorem k_1634 : Cond.fieldLink RX14 51 "PondReaderModel" "corkName" "[I" ∈ mtb := mk_s7 61 rfl rfl
theorem k_1635 : Cond.fieldLink RX14 54 "PondReaderModel" "corkAt" "[I" ∈ mtb := mk_s7 62 rfl rfl
theorem k_1636 : Cond.fieldLink RX14 57 "PondReaderModel" "skaterName" "[I" ∈ mtb := mk_s7 63 rfl rfl
theorem k_1637 : Cond.fieldLink RX14 60 "PondReaderModel" "skaterAt" "[I" ∈ mtb := mk_s7 64 rfl rfl
theorem k_1638 : Cond.fieldLink RX14 63 "PondReaderModel" "dropKind" "[I" ∈ mtb := mk_s7 65 rfl rfl
theorem k_1639 : Cond.fieldLink RX14 66 "PondReaderModel" "dropAt" "[I" ∈ mtb := mk_s7 66 rfl rfl
theorem k_1640 : Cond.fieldLink RX14 69 "PondReaderModel" "dropStep" "[I" ∈ mtb := mk_s7 67 rfl rfl
theorem k_1641 : Cond.fieldLink RX14 72 "PondReaderModel" "mayName" "[I" ∈ mtb := mk_s7 68 rfl rfl
theorem k_1642 : Cond.fieldLink RX14 75 "PondReaderModel" "mayShores" "[I" ∈ mtb := mk_s7 69 rfl rfl
theorem k_1643 : Cond.fieldLink RX14 78 "PondReaderModel" "mayShore" "[I" ∈ mtb := mk_s7 70 rfl rfl
theorem k_1644 : Cond.fieldLink RX14 81 "PondReaderModel" "knot" "[I" ∈ mtb := mk_s7 71 rfl rfl
theorem k_1645 : Cond.fieldLink RX14 84 "PondReaderModel" "part" "[I" ∈ mtb := mk_s7 72 rfl rfl
theorem k_1646 : Cond.fieldLink RX14 87 "PondReaderModel" "other" "[I" ∈ mtb := mk_s7 73 rfl rfl
theorem k_1647 : Cond.fieldLink RX14 320 "PondReaderModel" "yAt" "I" ∈ mtb := mk_s7 74 rfl rfl
theorem k_1648 : Cond.fieldLink RX14 90 "PondReaderModel" "wait" "[I" ∈ mtb := mk_s7 75 rfl rfl
theorem k_1649 : Cond.fieldLink RX14 93 "PondReaderModel" "held" "[I" ∈ mtb := mk_s7 76 rfl rfl
theorem k_1650 : Cond.fieldLink RX14 364 "PondReaderModel" "waits" "I" ∈ mtb := mk_s7 77 rfl rfl
theorem k_1651 : Cond.fieldLink RX14 361 "PondReaderModel" "helds" "I" ∈ mtb := mk_s7 78 rfl rfl
theorem k_1652 : Cond.fieldLink RX14 379 "PondReaderModel" "brackets" "I" ∈ mtb := mk_s7 79 rfl rfl
theorem k_1653 : Cond.fieldLink RX14 242 "PondReaderModel" "counted" "I" ∈ mtb := mk_s7 80 rfl rfl
theorem k_1654 : Cond.fieldLink RX14 395 "PondReaderModel" "wants" "Z" ∈ mtb := mk_s7 81 rfl rfl
theorem k_1655 : Cond.fieldLink RX14 386 "PondReaderModel" "mayNot" "Z" ∈ mtb := mk_s7 82 rfl rfl
theorem k_1656 : Cond.fieldLink RX14 96 "PondReaderModel" "names" "[J" ∈ mtb := mk_s7 83 rfl rfl
theorem k_1657 : Cond.fieldLink RX14 100 "PondReaderModel" "value" "[J" ∈ mtb := mk_s7 84 rfl rfl
theorem k_1658 : Cond.fieldLink RX14 407 "PondReaderModel" "isError" "Z" ∈ mtb := mk_s7 85 rfl rfl
theorem k_1659 : Cond.fieldLink RX14 103 "PondReaderModel" "fars" "[I" ∈ mtb := mk_s7 86 rfl rfl
theorem k_1660 : Cond.fieldLink RX14 106 "PondReaderModel" "weaks" "[I" ∈ mtb := mk_s7 87 rfl rfl
theorem k_1661 : Cond.fieldLink RX14 298 "PondReaderModel" "drops" "I" ∈ mtb := mk_s7 88 rfl rfl
theorem k_1662 : Cond.fieldLink RX14 448 "PondReaderModel" "shoresNow" "I" ∈ mtb := mk_s7 89 rfl rfl
theorem k_1663 : Cond.fieldLink RX14 109 "PondReaderModel" "shoreNow" "[I" ∈ mtb := mk_s7 90 rfl rfl
theorem k_1664 : Cond.fieldLink RX14 112 "PondReaderModel" "lieKind" "I" ∈ mtb := mk_s7 91 rfl rfl
theorem k_1665 : Cond.fieldLink RX14 458 "PondReaderModel" "lieAt" "I" ∈ mtb := mk_s7 92 rfl rfl
theorem k_1666 : Cond.fieldLink RX14 461 "PondReaderModel" "lieStep" "I" ∈ mtb := mk_s7 93 rfl rfl
theorem k_1667 : Cond.fieldLink RX14 301 "PondReaderModel" "undos" "I" ∈ mtb := mk_s7 94 rfl rfl
theorem k_1668 : Cond.fieldLink RX14 115 "PondReaderModel" "undo" "[I" ∈ mtb := mk_s7 95 rfl rfl
theorem k_1669 : Cond.fieldLink RX14 304 "PondReaderModel" "notes" "I" ∈ mtb := mk_s7 96 rfl rfl
theorem k_1670 : Cond.fieldLink RX14 118 "PondReaderModel" "seen" "I" ∈ mtb := mk_s7 97 rfl rfl
theorem k_1671 : Cond.fieldLink RX14 121 "PondReaderModel" "note" "[I" ∈ mtb := mk_s7 98 rfl rfl
theorem k_1672 : Cond.fieldLink RX14 124 "PondReaderModel" "counts" "[Z" ∈ mtb := mk_s7 99 rfl rfl
theorem k_1673 : Cond.fieldLink RX14 509 "PondReaderModel" "found" "I" ∈ mtb := mk_s7 100 rfl rfl
theorem k_1674 : Cond.fieldLink RX14 512 "PondReaderModel" "asked" "I" ∈ mtb := mk_s7 101 rfl rfl
theorem k_1675 : Cond.fieldLink RX14 515 "PondReaderModel" "likely" "I" ∈ mtb := mk_s7 102 rfl rfl
theorem k_1676 : Cond.fieldLink RX14 127 "PondReaderModel" "shown" "[I" ∈ mtb := mk_s7 103 rfl rfl
theorem k_1677 : Cond.fieldLink RX14 130 "PondReaderModel" "fallKind" "[I" ∈ mtb := mk_s7 104 rfl rfl
theorem k_1678 : Cond.fieldLink RX14 133 "PondReaderModel" "fallAt" "[I" ∈ mtb := mk_s7 105 rfl rfl
theorem k_1679 : Cond.fieldLink RX14 530 "PondReaderModel" "falls" "I" ∈ mtb := mk_s7 106 rfl rfl
theorem k_1680 : Cond.fieldLink RX14 556 "PondReaderModel" "drawn" "J" ∈ mtb := mk_s7 107 rfl rfl
theorem k_1681 : Cond.fieldLink RX14 307 "PondReaderModel" "hasImage" "Z" ∈ mtb := mk_s7 108 rfl rfl
theorem k_1682 : Cond.fieldLink RX14 571 "PondReaderModel" "imageDrops" "I" ∈ mtb := mk_s7 109 rfl rfl
theorem k_1683 : Cond.fieldLink RX14 136 "PondReaderModel" "imageGround" "[I" ∈ mtb := mk_s7 110 rfl rfl
theorem k_1684 : Cond.fieldLink RX14 139 "PondReaderModel" "imageDrop" "[I" ∈ mtb := mk_s7 111 rfl rfl
theorem k_1898 : Cond.methodLink RX14 199 yX14_token ∈ mtb := mk_s8 85 rfl rfl
theorem k_1900 : Cond.instanceMethod yX14_token ∈ mtb := mk_s8 87 rfl rfl
theorem k_1901 : Cond.code yX14_token cX14_token 1 none ∈ mtb := mk_s8 88 rfl rfl
theorem k_1902 : Cond.methodLink RX14 169 yX14_isSmall ∈ mtb := mk_s8 89 rfl rfl
theorem k_1904 : Cond.instanceMethod yX14_isSmall ∈ mtb := mk_s8 91 rfl rfl
theorem k_1905 : Cond.code yX14_isSmall cX14_isSmall 2 (some Jvm.ClassFile.FieldType.boolean) ∈ mtb := mk_s8 92 rfl rfl
theorem k_1906 : Cond.methodLink RX14 173 yX14_wordAt ∈ mtb := mk_s8 93 rfl rfl
theorem k_1908 : Cond.instanceMethod yX14_wordAt ∈ mtb := mk_s8 95 rfl rfl
theorem k_1909 : Cond.code yX14_wordAt cX14_wordAt 8 (some Jvm.ClassFile.FieldType.int) ∈ mtb := mk_s8 96 rfl rfl
theorem k_1910 : Cond.methodLink RX14 180 yX14_packed ∈ mtb := mk_s8 97 rfl rfl
theorem k_1912 : Cond.instanceMethod yX14_packed ∈ mtb := mk_s8 99 rfl rfl
theorem k_1913 : Cond.code yX14_packed cX14_packed 5 (some Jvm.ClassFile.FieldType.int) ∈ mtb := mk_s8 100 rfl rfl
theorem k_1914 : Cond.methodLink RX14 183 yX14_isDigit ∈ mtb := mk_s8 101 rfl rfl
theorem k_1916 : Cond.instanceMethod yX14_isDigit ∈ mtb := mk_s8 103 rfl rfl
theorem k_1917 : Cond.code yX14_isDigit cX14_isDigit 2 (some Jvm.ClassFile.FieldType.boolean) ∈ mtb := mk_s8 104 rfl rfl
theorem k_1918 : Cond.methodLink RX14 186 yX14_signToken ∈ mtb := mk_s8 105 rfl rfl
theorem k_1920 : Cond.instanceMethod yX14_signToken ∈ mtb := mk_s8 107 rfl rfl
theorem k_1921 : Cond.code yX14_signToken cX14_signToken 4 none ∈ mtb := mk_s8 108 rfl rfl
theorem k_1922 : Cond.methodLink RX14 358 yX14_lineRead ∈ mtb := mk_s8 109 rfl rfl
theorem k_1924 : Cond.instanceMethod yX14_lineRead ∈ mtb := mk_s8 111 rfl rfl
theorem k_1925 : Cond.code yX14_lineRead cX14_lineRead 3 (some Jvm.ClassFile.FieldType.boolean) ∈ mtb := mk_s8 112 rfl rfl
theorem k_1926 : Cond.methodLink RX14 189 yX14_wrong ∈ mtb := mk_s8 113 rfl rfl
theorem k_1928 : Cond.instanceMethod yX14_wrong ∈ mtb := mk_s8 115 rfl rfl
theorem k_1929 : Cond.code yX14_wrong cX14_wrong 2 (some Jvm.ClassFile.FieldType.boolean) ∈ mtb := mk_s8 116 rfl rfl
theorem k_1930 : Cond.methodLink RX14 205 yX14_number ∈ mtb := mk_s8 117 rfl rfl
theorem k_1932 : Cond.instanceMethod yX14_number ∈ mtb := mk_s8 119 rfl rfl
theorem k_1933 : Cond.code yX14_number cX14_number 3 (some Jvm.ClassFile.FieldType.boolean) ∈ mtb := mk_s8 120 rfl rfl
theorem k_1934 : Cond.methodLink RX14 192 yX14_isIn ∈ mtb := mk_s8 121 rfl rfl
theorem k_1935 : Cond.static yX14_isIn ∈ mtb := mk_s8 122 rfl rfl
theorem k_1936 : Cond.code yX14_isIn cX14_isIn 3 (some Jvm.ClassFile.FieldType.boolean) ∈ mtb := mk_s8 123 rfl rfl
theorem k_1937 : Cond.methodLink RX14 343 yX14_groundLine ∈ mtb := mk_s8 124 rfl rfl
theorem k_1939 : Cond.instanceMethod yX14_groundLine ∈ mtb := mk_s8 126 rfl rfl
theorem k_1940 : Cond.code yX14_groundLine cX14_groundLine 4 (some Jvm.ClassFile.FieldType.boolean) ∈ mtb := mk_s8 127 rfl rfl
theorem k_1941 : Cond.methodLink RX14 323 yX14_cellRead ∈ mtb := mk_s8 128 rfl rfl
theorem k_1943 : Cond.instanceMethod yX14_cellRead ∈ mtb := mk_s8 130 rfl rfl
theorem k_1944 : Cond.code yX14_cellRead cX14_cellRead 2 (some Jvm.ClassFile.FieldType.boolean) ∈ mtb := mk_s8 131 rfl rfl
theorem k_1945 : Cond.methodLink RX14 327 yX14_wrongCell ∈ mtb := mk_s8 132 rfl rfl
theorem k_1947 : Cond.instanceMethod yX14_wrongCell ∈ mtb := mk_s8 134 rfl rfl
theorem k_1948 : Cond.code yX14_wrongCell cX14_wrongCell 1 (some Jvm.ClassFile.FieldType.boolean) ∈ mtb := mk_s8 135 rfl rfl
theorem k_1949 : Cond.methodLink RX14 346 yX14_kindLine ∈ mtb := mk_s8 136 rfl rfl
theorem k_1951 : Cond.instanceMethod yX14_kindLine ∈ mtb := mk_s8 138 rfl rfl
theorem k_1952 : Cond.code yX14_kindLine cX14_kindLine 3 (some Jvm.ClassFile.FieldType.boolean) ∈ mtb := mk_s8 139 rfl rfl
theorem k_1953 : Cond.methodLink RX14 330 yX14_newName ∈ mtb := mk_s8 140 rfl rfl
theorem k_1955 : Cond.instanceMethod yX14_newName ∈ mtb := mk_s8 142 rfl rfl
theorem k_1956 : Cond.code yX14_newName cX14_newName 4 (some Jvm.ClassFile.FieldType.boolean) ∈ mtb := mk_s8 143 rfl rfl
theorem k_1957 : Cond.methodLink RX14 316 yX14_find ∈ mtb := mk_s8 144 rfl rfl
theorem k_1958 : Cond.static yX14_find ∈ mtb := mk_s8 145 rfl rfl
theorem k_1959 : Cond.code yX14_find cX14_find 5 (some Jvm.ClassFile.FieldType.int) ∈ mtb := mk_s8 146 rfl rfl
theorem k_1960 : Cond.methodLink RX14 334 yX14_signed ∈ mtb := mk_s8 147 rfl rfl
theorem k_1962 : Cond.instanceMethod yX14_signed ∈ mtb := mk_s8 149 rfl rfl
theorem k_1963 : Cond.code yX14_signed cX14_signed 3 (some Jvm.ClassFile.FieldType.boolean) ∈ mtb := mk_s8 150 rfl rfl
theorem k_1964 : Cond.methodLink RX14 202 yX14_isSign ∈ mtb := mk_s8 151 rfl rfl
theorem k_1966 : Cond.instanceMethod yX14_isSign ∈ mtb := mk_s8 153 rfl rfl
theorem k_1967 : Cond.code yX14_isSign cX14_isSign 2 (some Jvm.ClassFile.FieldType.boolean) ∈ mtb := mk_s8 154 rfl rfl
theorem k_1968 : Cond.methodLink RX14 337 yX14_isKey ∈ mtb := mk_s8 155 rfl rfl
theorem k_1970 : Cond.instanceMethod yX14_isKey ∈ mtb := mk_s8 157 rfl rfl
theorem k_1971 : Cond.code yX14_isKey cX14_isKey 2 (some Jvm.ClassFile.FieldType.boolean) ∈ mtb := mk_s8 158 rfl rfl
theorem k_1972 : Cond.methodLink RX14 340 yX14_waterRead ∈ mtb := mk_s8 159 rfl rfl
theorem k_1974 : Cond.instanceMethod yX14_waterRead ∈ mtb := mk_s8 161 rfl rfl
theorem k_1975 : Cond.code yX14_waterRead cX14_waterRead 1 (some Jvm.ClassFile.FieldType.boolean) ∈ mtb := mk_s8 162 rfl rfl
theorem k_1976 : Cond.methodLink RX14 349 yX14_dropLine ∈ mtb := mk_s8 163 rfl rfl
theorem k_1978 : Cond.instanceMethod yX14_dropLine ∈ mtb := mk_s8 165 rfl rfl
theorem k_1979 : Cond.code yX14_dropLine cX14_dropLine 2 (some Jvm.ClassFile.FieldType.boolean) ∈ mtb := mk_s8 166 rfl rfl
theorem k_1980 : Cond.methodLink RX14 352 yX14_sumRead ∈ mtb := mk_s8 167 rfl rfl
theorem k_1982 : Cond.instanceMethod yX14_sumRead ∈ mtb := mk_s8 169 rfl rfl
theorem k_1983 : Cond.code yX14_sumRead cX14_sumRead 1 (some Jvm.ClassFile.FieldType.boolean) ∈ mtb := mk_s8 170 rfl rfl
theorem k_1984 : Cond.methodLink RX14 401 yX14_leafRead ∈ mtb := mk_s8 171 rfl rfl
theorem k_1986 : Cond.instanceMethod yX14_leafRead ∈ mtb := mk_s8 173 rfl rfl
theorem k_1987 : Cond.code yX14_leafRead cX14_leafRead 2 (some Jvm.ClassFile.FieldType.boolean) ∈ mtb := mk_s8 174 rfl rfl
theorem k_1988 : Cond.methodLink RX14 382 yX14_waitsFor ∈ mtb := mk_s8 175 rfl rfl
theorem k_1990 : Cond.instanceMethod yX14_waitsFor ∈ mtb := mk_s8 177 rfl rfl
theorem k_1991 : Cond.code yX14_waitsFor cX14_waitsFor 2 none ∈ mtb := mk_s8 178 rfl rfl
theorem k_1992 : Cond.methodLink RX14 389 yX14_isCounted ∈ mtb := mk_s8 179 rfl rfl
theorem k_1994 : Cond.instanceMethod yX14_isCounted ∈ mtb := mk_s8 181 rfl rfl
theorem k_1995 : Cond.code yX14_isCounted cX14_isCounted 1 (some Jvm.ClassFile.FieldType.boolean) ∈ mtb := mk_s8 182 rfl rfl
theorem k_1996 : Cond.methodLink RX14 392 yX14_nameMet ∈ mtb := mk_s8 183 rfl rfl
theorem k_1998 : Cond.instanceMethod yX14_nameMet ∈ mtb := mk_s8 185 rfl rfl
theorem k_1999 : Cond.code yX14_nameMet cX14_nameMet 1 (some Jvm.ClassFile.FieldType.int) ∈ mtb := mk_s8 186 rfl rfl
theorem k_2000 : Cond.methodLink RX14 375 yX14_grown ∈ mtb := mk_s8 187 rfl rfl
theorem k_2002 : Cond.instanceMethod yX14_grown ∈ mtb := mk_s8 189 rfl rfl
theorem k_2003 : Cond.code yX14_grown cX14_grown 4 none ∈ mtb := mk_s8 190 rfl rfl
theorem k_2004 : Cond.methodLink RX14 404 yX14_signs ∈ mtb := mk_s8 191 rfl rfl
theorem k_2006 : Cond.instanceMethod yX14_signs ∈ mtb := mk_s8 193 rfl rfl
theorem k_2007 : Cond.code yX14_signs cX14_signs 2 (some Jvm.ClassFile.FieldType.boolean) ∈ mtb := mk_s8 194 rfl rfl
theorem k_2008 : Cond.methodLink RX14 398 yX14_bind ∈ mtb := mk_s8 195 rfl rfl
theorem k_2010 : Cond.instanceMethod yX14_bind ∈ mtb := mk_s8 197 rfl rfl
theorem k_2011 : Cond.code yX14_bind cX14_bind 5 none ∈ mtb := mk_s8 198 rfl rfl
theorem k_2012 : Cond.methodLink RX14 367 yX14_rank ∈ mtb := mk_s8 199 rfl rfl
theorem k_2013 : Cond.static yX14_rank ∈ mtb := mk_s8 200 rfl rfl
theorem k_2014 : Cond.code yX14_rank cX14_rank 1 (some Jvm.ClassFile.FieldType.int) ∈ mtb := mk_s8 201 rfl rfl
theorem k_2015 : Cond.methodLink RX14 371 yX14_dropHeld ∈ mtb := mk_s8 202 rfl rfl
theorem k_2017 : Cond.instanceMethod yX14_dropHeld ∈ mtb := mk_s8 204 rfl rfl
theorem k_2018 : Cond.code yX14_dropHeld cX14_dropHeld 1 (some Jvm.ClassFile.FieldType.int) ∈ mtb := mk_s8 205 rfl rfl
theorem k_2019 : Cond.methodLink RX14 355 yX14_mayLine ∈ mtb := mk_s8 206 rfl rfl
theorem k_2021 : Cond.instanceMethod yX14_mayLine ∈ mtb := mk_s8 208 rfl rfl
theorem k_2022 : Cond.code yX14_mayLine cX14_mayLine 3 (some Jvm.ClassFile.FieldType.boolean) ∈ mtb := mk_s8 209 rfl rfl
theorem k_2043 : Cond.methodLink RX14 442 yX14_isKind ∈ mtb := mk_s8 230 rfl rfl
theorem k_2045 : Cond.instanceMethod yX14_isKind ∈ mtb := mk_s8 232 rfl rfl
theorem k_2046 : Cond.code yX14_isKind cX14_isKind 2 (some Jvm.ClassFile.FieldType.boolean) ∈ mtb := mk_s8 233 rfl rfl
theorem k_2047 : Cond.methodLink RX14 445 yX14_fails ∈ mtb := mk_s8 234 rfl rfl
theorem k_2049 : Cond.instanceMethod yX14_fails ∈ mtb := mk_s8 236 rfl rfl
theorem k_2050 : Cond.code yX14_fails cX14_fails 2 (some Jvm.ClassFile.FieldType.int) ∈ mtb := mk_s8 237 rfl rfl
theorem k_2063 : Cond.methodLink RX14 468 yX14_isStep ∈ mtb := mk_s9 10 rfl rfl
theorem k_2064 : Cond.static yX14_isStep ∈ mtb := mk_s9 11 rfl rfl
theorem k_2065 : Cond.code yX14_isStep cX14_isStep 1 (some Jvm.ClassFile.FieldType.boolean) ∈ mtb := mk_s9 12 rfl rfl
theorem k_2066 : Cond.methodLink RX14 471 yX14_riseIn ∈ mtb := mk_s9 13 rfl rfl
theorem k_2068 : Cond.instanceMethod yX14_riseIn ∈ mtb := mk_s9 15 rfl rfl
theorem k_2069 : Cond.code yX14_riseIn cX14_riseIn 5 (some Jvm.ClassFile.FieldType.int) ∈ mtb := mk_s9 16 rfl rfl
theorem k_2070 : Cond.methodLink RX14 464 yX14_gives ∈ mtb := mk_s9 17 rfl rfl
theorem k_2072 : Cond.instanceMethod yX14_gives ∈ mtb := mk_s9 19 rfl rfl
theorem k_2073 : Cond.code yX14_gives cX14_gives 9 (some Jvm.ClassFile.FieldType.int) ∈ mtb := mk_s9 20 rfl rfl
theorem k_2074 : Cond.methodLink RX14 451 yX14_riseAt ∈ mtb := mk_s9 21 rfl rfl
theorem k_2076 : Cond.instanceMethod yX14_riseAt ∈ mtb := mk_s9 23 rfl rfl
theorem k_2077 : Cond.code yX14_riseAt cX14_riseAt 3 (some Jvm.ClassFile.FieldType.int) ∈ mtb := mk_s9 24 rfl rfl
theorem k_2078 : Cond.methodLink RX14 454 yX14_partOf ∈ mtb := mk_s9 25 rfl rfl
theorem k_2080 : Cond.instanceMethod yX14_partOf ∈ mtb := mk_s9 27 rfl rfl
theorem k_2081 : Cond.code yX14_partOf cX14_partOf 5 (some Jvm.ClassFile.FieldType.int) ∈ mtb := mk_s9 28 rfl rfl
theorem k_2082 : Cond.constant RX14 474 (Int32.ofInt (-2147483648)) ∈ mtb := mk_s9 29 rfl rfl
theorem k_2087 : Cond.methodLink RX14 475 yX14_isCork ∈ mtb := mk_s9 34 rfl rfl
theorem k_2089 : Cond.instanceMethod yX14_isCork ∈ mtb := mk_s9 36 rfl rfl
theorem k_2090 : Cond.code yX14_isCork cX14_isCork 2 (some Jvm.ClassFile.FieldType.boolean) ∈ mtb := mk_s9 37 rfl rfl
theorem k_2099 : Cond.methodLink RX14 482 yX14_isSkater ∈ mtb := mk_s9 46 rfl rfl
theorem k_2101 : Cond.instanceMethod yX14_isSkater ∈ mtb := mk_s9 48 rfl rfl
theorem k_2102 : Cond.code yX14_isSkater cX14_isSkater 2 (some Jvm.ClassFile.FieldType.boolean) ∈ mtb := mk_s9 49 rfl rfl
theorem k_2103 : Cond.constantLong RX14 485 (Int64.ofInt (-9223372036854775808)) ∈ mtb := mk_s9 50 rfl rfl
theorem k_2104 : Cond.methodLink RX14 487 yX14_lawOf ∈ mtb := mk_s9 51 rfl rfl
theorem k_2106 : Cond.instanceMethod yX14_lawOf ∈ mtb := mk_s9 53 rfl rfl
theorem k_2107 : Cond.code yX14_lawOf cX14_lawOf 6 (some Jvm.ClassFile.FieldType.long) ∈ mtb := mk_s9 54 rfl rfl
theorem k_2108 : Cond.methodLink RX14 478 yX14_valueOf ∈ mtb := mk_s9 55 rfl rfl
theorem k_2110 : Cond.instanceMethod yX14_valueOf ∈ mtb := mk_s9 57 rfl rfl
theorem k_2111 : Cond.code yX14_valueOf cX14_valueOf 6 (some Jvm.ClassFile.FieldType.long) ∈ mtb := mk_s9 58 rfl rfl
theorem k_2112 : Cond.methodLink RX14 414 yX14_bounded ∈ mtb := mk_s9 59 rfl rfl
theorem k_2114 : Cond.instanceMethod yX14_bounded ∈ mtb := mk_s9 61 rfl rfl
theorem k_2115 : Cond.code yX14_bounded cX14_bounded 3 (some Jvm.ClassFile.FieldType.long) ∈ mtb := mk_s9 62 rfl rfl
theorem k_2116 : Cond.constantLong RX14 410 (Int64.ofInt 1000000000000) ∈ mtb := mk_s9 63 rfl rfl
theorem k_2117 : Cond.constantLong RX14 412 (Int64.ofInt (-1000000000000)) ∈ mtb := mk_s9 64 rfl rfl
theorem k_2118 : Cond.methodLink RX14 418 yX14_times ∈ mtb := mk_s9 65 rfl rfl
theorem k_2120 : Cond.instanceMethod yX14_times ∈ mtb := mk_s9 67 rfl rfl
theorem k_2121 : Cond.code yX14_times cX14_times 6 (some Jvm.ClassFile.FieldType.long) ∈ mtb := mk_s9 68 rfl rfl
theorem k_2122 : Cond.methodLink RX14 422 yX14_compares ∈ mtb := mk_s9 69 rfl rfl
theorem k_2123 : Cond.static yX14_compares ∈ mtb := mk_s9 70 rfl rfl
theorem k_2124 : Cond.code yX14_compares cX14_compares 5 (some Jvm.ClassFile.FieldType.boolean) ∈ mtb := mk_s9 71 rfl rfl
theorem k_2129 : Cond.methodLink RX14 491 yX14_goesFrom ∈ mtb := mk_s9 76 rfl rfl
theorem k_2131 : Cond.instanceMethod yX14_goesFrom ∈ mtb := mk_s9 78 rfl rfl
theorem k_2132 : Cond.code yX14_goesFrom cX14_goesFrom 10 (some Jvm.ClassFile.FieldType.int) ∈ mtb := mk_s9 79 rfl rfl
theorem k_2137 : Cond.methodLink RX14 494 yX14_comesTo ∈ mtb := mk_s9 84 rfl rfl
theorem k_2139 : Cond.instanceMethod yX14_comesTo ∈ mtb := mk_s9 86 rfl rfl
theorem k_2140 : Cond.code yX14_comesTo cX14_comesTo 6 (some Jvm.ClassFile.FieldType.int) ∈ mtb := mk_s9 87 rfl rfl
theorem k_2153 : Cond.methodLink RX14 497 yX14_remember ∈ mtb := mk_s9 100 rfl rfl
theorem k_2155 : Cond.instanceMethod yX14_remember ∈ mtb := mk_s9 102 rfl rfl
theorem k_2156 : Cond.code yX14_remember cX14_remember 3 none ∈ mtb := mk_s9 103 rfl rfl
theorem k_2169 : Cond.methodLink RX14 500 yX14_noted ∈ mtb := mk_s9 116 rfl rfl
theorem k_2171 : Cond.instanceMethod yX14_noted ∈ mtb := mk_s9 118 rfl rfl
theorem k_2172 : Cond.code yX14_noted cX14_noted 4 (some Jvm.ClassFile.FieldType.int) ∈ mtb := mk_s9 119 rfl rfl
theorem k_2185 : Cond.methodLink RX14 521 yX14_layTales ∈ mtb := mk_s9 132 rfl rfl
theorem k_2187 : Cond.instanceMethod yX14_layTales ∈ mtb := mk_s9 134 rfl rfl
theorem k_2188 : Cond.code yX14_layTales cX14_layTales 6 none ∈ mtb := mk_s9 135 rfl rfl
theorem k_2189 : Cond.methodLink RX14 506 yX14_layCounts ∈ mtb := mk_s9 136 rfl rfl
theorem k_2191 : Cond.instanceMethod yX14_layCounts ∈ mtb := mk_s9 138 rfl rfl
theorem k_2192 : Cond.code yX14_layCounts cX14_layCounts 2 none ∈ mtb := mk_s9 139 rfl rfl
theorem k_2193 : Cond.methodLink RX14 503 yX14_knownBy ∈ mtb := mk_s9 140 rfl rfl
theorem k_2195 : Cond.instanceMethod yX14_knownBy ∈ mtb := mk_s9 142 rfl rfl
theorem k_2196 : Cond.code yX14_knownBy cX14_knownBy 1 (some Jvm.ClassFile.FieldType.int) ∈ mtb := mk_s9 143 rfl rfl
theorem k_2197 : Cond.methodLink RX14 518 yX14_tells ∈ mtb := mk_s9 144 rfl rfl
theorem k_2199 : Cond.instanceMethod yX14_tells ∈ mtb := mk_s9 146 rfl rfl
theorem k_2200 : Cond.code yX14_tells cX14_tells 5 (some Jvm.ClassFile.FieldType.boolean) ∈ mtb := mk_s9 147 rfl rfl
theorem k_2205 : Cond.methodLink RX14 524 yX14_told ∈ mtb := mk_s9 152 rfl rfl
theorem k_2206 : Cond.static yX14_told ∈ mtb := mk_s9 153 rfl rfl
theorem k_2207 : Cond.code yX14_told cX14_told 2 (some Jvm.ClassFile.FieldType.int) ∈ mtb := mk_s9 154 rfl rfl
theorem k_2216 : Cond.methodLink RX14 527 yX14_isFit ∈ mtb := mk_s9 163 rfl rfl
theorem k_2218 : Cond.instanceMethod yX14_isFit ∈ mtb := mk_s9 165 rfl rfl
theorem k_2219 : Cond.code yX14_isFit cX14_isFit 2 (some Jvm.ClassFile.FieldType.boolean) ∈ mtb := mk_s9 166 rfl rfl
theorem k_2224 : Cond.methodLink RX14 544 yX14_layFalls ∈ mtb := mk_s9 171 rfl rfl
theorem k_2226 : Cond.instanceMethod yX14_layFalls ∈ mtb := mk_s9 173 rfl rfl
theorem k_2227 : Cond.code yX14_layFalls cX14_layFalls 8 (some Jvm.ClassFile.FieldType.boolean) ∈ mtb := mk_s9 174 rfl rfl
theorem k_2228 : Cond.constantLong RX14 536 (Int64.ofInt 255) ∈ mtb := mk_s9 175 rfl rfl
theorem k_2229 : Cond.methodLink RX14 538 yX14_isOf ∈ mtb := mk_s9 176 rfl rfl
theorem k_2230 : Cond.static yX14_isOf ∈ mtb := mk_s9 177 rfl rfl
theorem k_2231 : Cond.code yX14_isOf cX14_isOf 2 (some Jvm.ClassFile.FieldType.boolean) ∈ mtb := mk_s9 178 rfl rfl
theorem k_2232 : Cond.methodLink RX14 541 yX14_layShown ∈ mtb := mk_s9 179 rfl rfl
theorem k_2234 : Cond.instanceMethod yX14_layShown ∈ mtb := mk_s9 181 rfl rfl
theorem k_2235 : Cond.code yX14_layShown cX14_layShown 4 none ∈ mtb := mk_s9 182 rfl rfl
theorem k_2236 : Cond.methodLink RX14 548 yX14_manyOf ∈ mtb := mk_s9 183 rfl rfl
theorem k_2237 : Cond.static yX14_manyOf ∈ mtb := mk_s9 184 rfl rfl
theorem k_2238 : Cond.code yX14_manyOf cX14_manyOf 3 (some Jvm.ClassFile.FieldType.int) ∈ mtb := mk_s9 185 rfl rfl
theorem k_2239 : Cond.methodLink RX14 551 yX14_tellsAll ∈ mtb := mk_s9 186 rfl rfl
theorem k_2241 : Cond.instanceMethod yX14_tellsAll ∈ mtb := mk_s9 188 rfl rfl
theorem k_2242 : Cond.code yX14_tellsAll cX14_tellsAll 4 (some Jvm.ClassFile.FieldType.boolean) ∈ mtb := mk_s9 189 rfl rfl
theorem k_2243 : Cond.methodLink RX14 533 yX14_unlike ∈ mtb := mk_s9 190 rfl rfl
theorem k_2245 : Cond.instanceMethod yX14_unlike ∈ mtb := mk_s9 192 rfl rfl
theorem k_2246 : Cond.code yX14_unlike cX14_unlike 6 (some Jvm.ClassFile.FieldType.int) ∈ mtb := mk_s9 193 rfl rfl
theorem k_2255 : Cond.constantLong RX14 554 (Int64.ofInt (-1)) ∈ mtb := mk_s9 202 rfl rfl
theorem k_2260 : Cond.methodLink RX14 568 yX14_drawn1 ∈ mtb := mk_s9 207 rfl rfl
theorem k_2262 : Cond.instanceMethod yX14_drawn1 ∈ mtb := mk_s9 209 rfl rfl
theorem k_2263 : Cond.code yX14_drawn1 cX14_drawn1 2 (some Jvm.ClassFile.FieldType.int) ∈ mtb := mk_s9 210 rfl rfl
theorem k_2264 : Cond.constantLong RX14 560 (Int64.ofInt 1103515245) ∈ mtb := mk_s9 211 rfl rfl
theorem k_2265 : Cond.constantLong RX14 562 (Int64.ofInt 12345) ∈ mtb := mk_s9 212 rfl rfl
theorem k_2266 : Cond.constantLong RX14 564 (Int64.ofInt 2147483647) ∈ mtb := mk_s9 213 rfl rfl
theorem k_2267 : Cond.constantLong RX14 566 (Int64.ofInt 65536) ∈ mtb := mk_s9 214 rfl rfl
theorem k_2280 : Cond.methodLink RX14 574 yX14_manyReeds ∈ mtb := mk_s9 227 rfl rfl
theorem k_2282 : Cond.instanceMethod yX14_manyReeds ∈ mtb := mk_s9 229 rfl rfl
theorem k_2283 : Cond.code yX14_manyReeds cX14_manyReeds 3 (some Jvm.ClassFile.FieldType.int) ∈ mtb := mk_s9 230 rfl rfl
theorem k_2304 : Cond.fieldLink RX12 95 "PondReader$Word" "letters" "I" ∈ mtb := mk_s10 11 rfl rfl
theorem k_2305 : Cond.fieldLink RJx29ce0 7 "java/lang/Enum" "ordinal" "I" ∈ mtb := mk_s10 12 rfl rfl
theorem k_2306 : Cond.fieldLinkNest RX10 80 "PondReader$Word" "letters" "I" "PondReader" ∈ lw_tbl.filter mnest := mk_n10 13 rfl rfl
theorem k_2307 : Cond.fieldLinkNest RX9 323 "PondReader$Word" "code" "I" "PondReader" ∈ lw_tbl.filter mnest := mk_n10 14 rfl rfl
theorem hdS_J13_bitCount_95d88 : yJ13_bitCount_95d88.cls ≠ "java/lang/invoke/MethodHandle" ∧ yJ13_bitCount_95d88.cls ≠ "java/lang/invoke/VarHandle" ∧ (parseMethodDescriptor yJ13_bitCount_95d88.desc).map (fun d => d.parameters.length) = some 1 := by decide +kernel
theorem hdS_J6_bitCount_0f7a4 : yJ6_bitCount_0f7a4.cls ≠ "java/lang/invoke/MethodHandle" ∧ yJ6_bitCount_0f7a4.cls ≠ "java/lang/invoke/VarHandle" ∧ (parseMethodDescriptor yJ6_bitCount_0f7a4.desc).map (fun d => d.parameters.length) = some 1 := by decide +kernel
theorem hdS_X10_codeOf : yX10_codeOf.cls ≠ "java/lang/invoke/MethodHandle" ∧ yX10_codeOf.cls ≠ "java/lang/invoke/VarHandle" ∧ (parseMethodDescriptor yX10_codeOf.desc).map (fun d => d.parameters.length) = some 1 := by decide +kernel
theorem hdS_X10_isDigit : yX10_isDigit.cls ≠ "java/lang/invoke/MethodHandle" ∧ yX10_isDigit.cls ≠ "java/lang/invoke/VarHandle" ∧ (parseMethodDescriptor yX10_isDigit.desc).map (fun d => d.parameters.length) = some 1 := by decide +kernel
theorem hdS_X10_isLetter : yX10_isLetter.cls ≠ "java/lang/invoke/MethodHandle" ∧ yX10_isLetter.cls ≠ "java/lang/invoke/VarHandle" ∧ (parseMethodDescriptor yX10_isLetter.desc).map (fun d => d.parameters.length) = some 1 := by decide +kernel
theorem hdS_X12_of : yX12_of.cls ≠ "java/lang/invoke/MethodHandle" ∧ yX12_of.cls ≠ "java/lang/invoke/VarHandle" ∧ (parseMethodDescriptor yX12_of.desc).map (fun d => d.parameters.length) = some 1 := by decide +kernel
theorem hdS_X13_isStep : yX13_isStep.cls ≠ "java/lang/invoke/MethodHandle" ∧ yX13_isStep.cls ≠ "java/lang/invoke/VarHandle" ∧ (parseMethodDescriptor yX13_isStep.desc).map (fun d => d.parameters.length) = some 2 := by decide +kernel
theorem hdS_X14_compares : yX14_compares.cls ≠ "java/lang/invoke/MethodHandle" ∧ yX14_compares.cls ≠ "java/lang/invoke/VarHandle" ∧ (parseMethodDescriptor yX14_compares.desc).map (fun d => d.parameters.length) = some 3 := by decide +kernel
theorem hdS_X14_copies : yX14_copies.cls ≠ "java/lang/invoke/MethodHandle" ∧ yX14_copies.cls ≠ "java/lang/invoke/VarHandle" ∧ (parseMethodDescriptor yX14_copies.desc).map (fun d => d.parameters.length) = some 2 := by decide +kernel
theorem hdS_X14_find : yX14_find.cls ≠ "java/lang/invoke/MethodHandle" ∧ yX14_find.cls ≠ "java/lang/invoke/VarHandle" ∧ (parseMethodDescriptor yX14_find.desc).map (fun d => d.parameters.length) = some 4 := by decide +kernel
theorem hdS_X14_isIn : yX14_isIn.cls ≠ "java/lang/invoke/MethodHandle" ∧ yX14_isIn.cls ≠ "java/lang/invoke/VarHandle" ∧ (parseMethodDescriptor yX14_isIn.desc).map (fun d => d.parameters.length) = some 3 := by decide +kernel
theorem hdS_X14_isOf : yX14_isOf.cls ≠ "java/lang/invoke/MethodHandle" ∧ yX14_isOf.cls ≠ "java/lang/invoke/VarHandle" ∧ (parseMethodDescriptor yX14_isOf.desc).map (fun d => d.parameters.length) = some 2 := by decide +kernel
theorem hdS_X14_isStep : yX14_isStep.cls ≠ "java/lang/invoke/MethodHandle" ∧ yX14_isStep.cls ≠ "java/lang/invoke/VarHandle" ∧ (parseMethodDescriptor yX14_isStep.desc).map (fun d => d.parameters.length) = some 1 := by decide +kernel
theorem hdS_X14_manyOf : yX14_manyOf.cls ≠ "java/lang/invoke/MethodHandle" ∧ yX14_manyOf.cls ≠ "java/lang/invoke/VarHandle" ∧ (parseMethodDescriptor yX14_manyOf.desc).map (fun d => d.parameters.length) = some 1 := by decide +kernel
theorem hdS_X14_rank : yX14_rank.cls ≠ "java/lang/invoke/MethodHandle" ∧ yX14_rank.cls ≠ "java/lang/invoke/VarHandle" ∧ (parseMethodDescriptor yX14_rank.desc).map (fun d => d.parameters.length) = some 1 := by decide +kernel
theorem hdS_X14_told : yX14_told.cls ≠ "java/lang/invoke/MethodHandle" ∧ yX14_told.cls ≠ "java/lang/invoke/VarHandle" ∧ (parseMethodDescriptor yX14_told.desc).map (fun d => d.parameters.length) = some 2 := by decide +kernel
theorem hdS_X3_joined : yX3_joined.cls ≠ "java/lang/invoke/MethodHandle" ∧ yX3_joined.cls ≠ "java/lang/invoke/VarHandle" ∧ (parseMethodDescriptor yX3_joined.desc).map (fun d => d.parameters.length) = some 3 := by decide +kernel
theorem hdS_X9_rankOf : yX9_rankOf.cls ≠ "java/lang/invoke/MethodHandle" ∧ yX9_rankOf.cls ≠ "java/lang/invoke/VarHandle" ∧ (parseMethodDescriptor yX9_rankOf.desc).map (fun d => d.parameters.length) = some 1 := by decide +kernel
theorem hdV_X10_advance : yX10_advance.cls = RX10 ∧ yX10_advance.cls ≠ "java/lang/invoke/MethodHandle" ∧ yX10_advance.cls ≠ "java/lang/invoke/VarHandle" ∧ (parseMethodDescriptor yX10_advance.desc).map (fun d => d.parameters.length) = some 0 := by decide +kernel
theorem hdV_X10_byteAt : yX10_byteAt.cls = RX10 ∧ yX10_byteAt.cls ≠ "java/lang/invoke/MethodHandle" ∧ yX10_byteAt.cls ≠ "java/lang/invoke/VarHandle" ∧ (parseMethodDescriptor yX10_byteAt.desc).map (fun d => d.parameters.length) = some 1 := by decide +kernel
theorem hdV_X10_isSign : yX10_isSign.cls = RX10 ∧ yX10_isSign.cls ≠ "java/lang/invoke/MethodHandle" ∧ yX10_isSign.cls ≠ "java/lang/invoke/VarHandle" ∧ (parseMethodDescriptor yX10_isSign.desc).map (fun d => d.parameters.length) = some 1 := by decide +kernel
theorem hdV_X10_isWord : yX10_isWord.cls = RX10 ∧ yX10_isWord.cls ≠ "java/lang/invoke/MethodHandle" ∧ yX10_isWord.cls ≠ "java/lang/invoke/VarHandle" ∧ (parseMethodDescriptor yX10_isWord.desc).map (fun d => d.parameters.length) = some 1 := by decide +kernel
theorem hdV_X10_put : yX10_put.cls = RX10 ∧ yX10_put.cls ≠ "java/lang/invoke/MethodHandle" ∧ yX10_put.cls ≠ "java/lang/invoke/VarHandle" ∧ (parseMethodDescriptor yX10_put.desc).map (fun d => d.parameters.length) = some 3 := by decide +kernel
theorem hdV_X10_scan : yX10_scan.cls = RX10 ∧ yX10_scan.cls ≠ "java/lang/invoke/MethodHandle" ∧ yX10_scan.cls ≠ "java/lang/invoke/VarHandle" ∧ (parseMethodDescriptor yX10_scan.desc).map (fun d => d.parameters.length) = some 1 := by decide +kernel
theorem hdV_X10_scanNumber : yX10_scanNumber.cls = RX10 ∧ yX10_scanNumber.cls ≠ "java/lang/invoke/MethodHandle" ∧ yX10_scanNumber.cls ≠ "java/lang/invoke/VarHandle" ∧ (parseMethodDescriptor yX10_scanNumber.desc).map (fun d => d.parameters.length) = some 0 := by decide +kernel
theorem hdV_X10_scanSign : yX10_scanSign.cls = RX10 ∧ yX10_scanSign.cls ≠ "java/lang/invoke/MethodHandle" ∧ yX10_scanSign.cls ≠ "java/lang/invoke/VarHandle" ∧ (parseMethodDescriptor yX10_scanSign.desc).map (fun d => d.parameters.length) = some 1 := by decide +kernel
theorem hdV_X10_scanWord : yX10_scanWord.cls = RX10 ∧ yX10_scanWord.cls ≠ "java/lang/invoke/MethodHandle" ∧ yX10_scanWord.cls ≠ "java/lang/invoke/VarHandle" ∧ (parseMethodDescriptor yX10_scanWord.desc).map (fun d => d.parameters.length) = some 0 := by decide +kernel
theorem hdV_X11_addDrop : yX11_addDrop.cls = RX11 ∧ yX11_addDrop.cls ≠ "java/lang/invoke/MethodHandle" ∧ yX11_addDrop.cls ≠ "java/lang/invoke/VarHandle" ∧ (parseMethodDescriptor yX11_addDrop.desc).map (fun d => d.parameters.length) = some 3 := by decide +kernel
theorem hdV_X11_begin : yX11_begin.cls = RX11 ∧ yX11_begin.cls ≠ "java/lang/invoke/MethodHandle" ∧ yX11_begin.cls ≠ "java/lang/invoke/VarHandle" ∧ (parseMethodDescriptor yX11_begin.desc).map (fun d => d.parameters.length) = some 1 := by decide +kernel
theorem hdV_X11_changeReeds : yX11_changeReeds.cls = RX11 ∧ yX11_changeReeds.cls ≠ "java/lang/invoke/MethodHandle" ∧ yX11_changeReeds.cls ≠ "java/lang/invoke/VarHandle" ∧ (parseMethodDescriptor yX11_changeReeds.desc).map (fun d => d.parameters.length) = some 1 := by decide +kernel
theorem hdV_X11_cutReeds : yX11_cutReeds.cls = RX11 ∧ yX11_cutReeds.cls ≠ "java/lang/invoke/MethodHandle" ∧ yX11_cutReeds.cls ≠ "java/lang/invoke/VarHandle" ∧ (parseMethodDescriptor yX11_cutReeds.desc).map (fun d => d.parameters.length) = some 1 := by decide +kernel
theorem hdV_X11_hasReeds : yX11_hasReeds.cls = RX11 ∧ yX11_hasReeds.cls ≠ "java/lang/invoke/MethodHandle" ∧ yX11_hasReeds.cls ≠ "java/lang/invoke/VarHandle" ∧ (parseMethodDescriptor yX11_hasReeds.desc).map (fun d => d.parameters.length) = some 1 := by decide +kernel
theorem hdV_X11_keepImage : yX11_keepImage.cls = RX11 ∧ yX11_keepImage.cls ≠ "java/lang/invoke/MethodHandle" ∧ yX11_keepImage.cls ≠ "java/lang/invoke/VarHandle" ∧ (parseMethodDescriptor yX11_keepImage.desc).map (fun d => d.parameters.length) = some 0 := by decide +kernel
theorem hdV_X11_remember : yX11_remember.cls = RX11 ∧ yX11_remember.cls ≠ "java/lang/invoke/MethodHandle" ∧ yX11_remember.cls ≠ "java/lang/invoke/VarHandle" ∧ (parseMethodDescriptor yX11_remember.desc).map (fun d => d.parameters.length) = some 1 := by decide +kernel
theorem hdV_X11_takeImage : yX11_takeImage.cls = RX11 ∧ yX11_takeImage.cls ≠ "java/lang/invoke/MethodHandle" ∧ yX11_takeImage.cls ≠ "java/lang/invoke/VarHandle" ∧ (parseMethodDescriptor yX11_takeImage.desc).map (fun d => d.parameters.length) = some 0 := by decide +kernel
theorem hdV_X11_undoLatest : yX11_undoLatest.cls = RX11 ∧ yX11_undoLatest.cls ≠ "java/lang/invoke/MethodHandle" ∧ yX11_undoLatest.cls ≠ "java/lang/invoke/VarHandle" ∧ (parseMethodDescriptor yX11_undoLatest.desc).map (fun d => d.parameters.length) = some 0 := by decide +kernel
theorem hdV_X13_putBytes : yX13_putBytes.cls = RX13 ∧ yX13_putBytes.cls ≠ "java/lang/invoke/MethodHandle" ∧ yX13_putBytes.cls ≠ "java/lang/invoke/VarHandle" ∧ (parseMethodDescriptor yX13_putBytes.desc).map (fun d => d.parameters.length) = some 1 := by decide +kernel
theorem hdV_X13_rise : yX13_rise.cls = RX13 ∧ yX13_rise.cls ≠ "java/lang/invoke/MethodHandle" ∧ yX13_rise.cls ≠ "java/lang/invoke/VarHandle" ∧ (parseMethodDescriptor yX13_rise.desc).map (fun d => d.parameters.length) = some 2 := by decide +kernel
theorem hdV_X14_bind : yX14_bind.cls = RX14 ∧ yX14_bind.cls ≠ "java/lang/invoke/MethodHandle" ∧ yX14_bind.cls ≠ "java/lang/invoke/VarHandle" ∧ (parseMethodDescriptor yX14_bind.desc).map (fun d => d.parameters.length) = some 1 := by decide +kernel
theorem hdV_X14_bounded : yX14_bounded.cls = RX14 ∧ yX14_bounded.cls ≠ "java/lang/invoke/MethodHandle" ∧ yX14_bounded.cls ≠ "java/lang/invoke/VarHandle" ∧ (parseMethodDescriptor yX14_bounded.desc).map (fun d => d.parameters.length) = some 1 := by decide +kernel
theorem hdV_X14_cellRead : yX14_cellRead.cls = RX14 ∧ yX14_cellRead.cls ≠ "java/lang/invoke/MethodHandle" ∧ yX14_cellRead.cls ≠ "java/lang/invoke/VarHandle" ∧ (parseMethodDescriptor yX14_cellRead.desc).map (fun d => d.parameters.length) = some 0 := by decide +kernel
theorem hdV_X14_cells : yX14_cells.cls = RX14 ∧ yX14_cells.cls ≠ "java/lang/invoke/MethodHandle" ∧ yX14_cells.cls ≠ "java/lang/invoke/VarHandle" ∧ (parseMethodDescriptor yX14_cells.desc).map (fun d => d.parameters.length) = some 0 := by decide +kernel
theorem hdV_X14_comesTo : yX14_comesTo.cls = RX14 ∧ yX14_comesTo.cls ≠ "java/lang/invoke/MethodHandle" ∧ yX14_comesTo.cls ≠ "java/lang/invoke/VarHandle" ∧ (parseMethodDescriptor yX14_comesTo.desc).map (fun d => d.parameters.length) = some 3 := by decide +kernel
theorem hdV_X14_drawn1 : yX14_drawn1.cls = RX14 ∧ yX14_drawn1.cls ≠ "java/lang/invoke/MethodHandle" ∧ yX14_drawn1.cls ≠ "java/lang/invoke/VarHandle" ∧ (parseMethodDescriptor yX14_drawn1.desc).map (fun d => d.parameters.length) = some 1 := by decide +kernel
theorem hdV_X14_dropHeld : yX14_dropHeld.cls = RX14 ∧ yX14_dropHeld.cls ≠ "java/lang/invoke/MethodHandle" ∧ yX14_dropHeld.cls ≠ "java/lang/invoke/VarHandle" ∧ (parseMethodDescriptor yX14_dropHeld.desc).map (fun d => d.parameters.length) = some 0 := by decide +kernel
theorem hdV_X14_dropLine : yX14_dropLine.cls = RX14 ∧ yX14_dropLine.cls ≠ "java/lang/invoke/MethodHandle" ∧ yX14_dropLine.cls ≠ "java/lang/invoke/VarHandle" ∧ (parseMethodDescriptor yX14_dropLine.desc).map (fun d => d.parameters.length) = some 0 := by decide +kernel
theorem hdV_X14_fails : yX14_fails.cls = RX14 ∧ yX14_fails.cls ≠ "java/lang/invoke/MethodHandle" ∧ yX14_fails.cls ≠ "java/lang/invoke/VarHandle" ∧ (parseMethodDescriptor yX14_fails.desc).map (fun d => d.parameters.length) = some 1 := by decide +kernel
theorem hdV_X14_gives : yX14_gives.cls = RX14 ∧ yX14_gives.cls ≠ "java/lang/invoke/MethodHandle" ∧ yX14_gives.cls ≠ "java/lang/invoke/VarHandle" ∧ (parseMethodDescriptor yX14_gives.desc).map (fun d => d.parameters.length) = some 4 := by decide +kernel
theorem hdV_X14_goesFrom : yX14_goesFrom.cls = RX14 ∧ yX14_goesFrom.cls ≠ "java/lang/invoke/MethodHandle" ∧ yX14_goesFrom.cls ≠ "java/lang/invoke/VarHandle" ∧ (parseMethodDescriptor yX14_goesFrom.desc).map (fun d => d.parameters.length) = some 2 := by decide +kernel
theorem hdV_X14_groundLine : yX14_groundLine.cls = RX14 ∧ yX14_groundLine.cls ≠ "java/lang/invoke/MethodHandle" ∧ yX14_groundLine.cls ≠ "java/lang/invoke/VarHandle" ∧ (parseMethodDescriptor yX14_groundLine.desc).map (fun d => d.parameters.length) = some 1 := by decide +kernel
theorem hdV_X14_grown : yX14_grown.cls = RX14 ∧ yX14_grown.cls ≠ "java/lang/invoke/MethodHandle" ∧ yX14_grown.cls ≠ "java/lang/invoke/VarHandle" ∧ (parseMethodDescriptor yX14_grown.desc).map (fun d => d.parameters.length) = some 3 := by decide +kernel
theorem hdV_X14_isCell : yX14_isCell.cls = RX14 ∧ yX14_isCell.cls ≠ "java/lang/invoke/MethodHandle" ∧ yX14_isCell.cls ≠ "java/lang/invoke/VarHandle" ∧ (parseMethodDescriptor yX14_isCell.desc).map (fun d => d.parameters.length) = some 1 := by decide +kernel
theorem hdV_X14_isCork : yX14_isCork.cls = RX14 ∧ yX14_isCork.cls ≠ "java/lang/invoke/MethodHandle" ∧ yX14_isCork.cls ≠ "java/lang/invoke/VarHandle" ∧ (parseMethodDescriptor yX14_isCork.desc).map (fun d => d.parameters.length) = some 1 := by decide +kernel
theorem hdV_X14_isCounted : yX14_isCounted.cls = RX14 ∧ yX14_isCounted.cls ≠ "java/lang/invoke/MethodHandle" ∧ yX14_isCounted.cls ≠ "java/lang/invoke/VarHandle" ∧ (parseMethodDescriptor yX14_isCounted.desc).map (fun d => d.parameters.length) = some 0 := by decide +kernel
theorem hdV_X14_isDigit : yX14_isDigit.cls = RX14 ∧ yX14_isDigit.cls ≠ "java/lang/invoke/MethodHandle" ∧ yX14_isDigit.cls ≠ "java/lang/invoke/VarHandle" ∧ (parseMethodDescriptor yX14_isDigit.desc).map (fun d => d.parameters.length) = some 1 := by decide +kernel
theorem hdV_X14_isFit : yX14_isFit.cls = RX14 ∧ yX14_isFit.cls ≠ "java/lang/invoke/MethodHandle" ∧ yX14_isFit.cls ≠ "java/lang/invoke/VarHandle" ∧ (parseMethodDescriptor yX14_isFit.desc).map (fun d => d.parameters.length) = some 0 := by decide +kernel
theorem hdV_X14_isKey : yX14_isKey.cls = RX14 ∧ yX14_isKey.cls ≠ "java/lang/invoke/MethodHandle" ∧ yX14_isKey.cls ≠ "java/lang/invoke/VarHandle" ∧ (parseMethodDescriptor yX14_isKey.desc).map (fun d => d.parameters.length) = some 1 := by decide +kernel
theorem hdV_X14_isKind : yX14_isKind.cls = RX14 ∧ yX14_isKind.cls ≠ "java/lang/invoke/MethodHandle" ∧ yX14_isKind.cls ≠ "java/lang/invoke/VarHandle" ∧ (parseMethodDescriptor yX14_isKind.desc).map (fun d => d.parameters.length) = some 1 := by decide +kernel
theorem hdV_X14_isSign : yX14_isSign.cls = RX14 ∧ yX14_isSign.cls ≠ "java/lang/invoke/MethodHandle" ∧ yX14_isSign.cls ≠ "java/lang/invoke/VarHandle" ∧ (parseMethodDescriptor yX14_isSign.desc).map (fun d => d.parameters.length) = some 1 := by decide +kernel
theorem hdV_X14_isSkater : yX14_isSkater.cls = RX14 ∧ yX14_isSkater.cls ≠ "java/lang/invoke/MethodHandle" ∧ yX14_isSkater.cls ≠ "java/lang/invoke/VarHandle" ∧ (parseMethodDescriptor yX14_isSkater.desc).map (fun d => d.parameters.length) = some 1 := by decide +kernel
theorem hdV_X14_isSmall : yX14_isSmall.cls = RX14 ∧ yX14_isSmall.cls ≠ "java/lang/invoke/MethodHandle" ∧ yX14_isSmall.cls ≠ "java/lang/invoke/VarHandle" ∧ (parseMethodDescriptor yX14_isSmall.desc).map (fun d => d.parameters.length) = some 1 := by decide +kernel
theorem hdV_X14_isWater : yX14_isWater.cls = RX14 ∧ yX14_isWater.cls ≠ "java/lang/invoke/MethodHandle" ∧ yX14_isWater.cls ≠ "java/lang/invoke/VarHandle" ∧ (parseMethodDescriptor yX14_isWater.desc).map (fun d => d.parameters.length) = some 1 := by decide +kernel
theorem hdV_X14_keepText : yX14_keepText.cls = RX14 ∧ yX14_keepText.cls ≠ "java/lang/invoke/MethodHandle" ∧ yX14_keepText.cls ≠ "java/lang/invoke/VarHandle" ∧ (parseMethodDescriptor yX14_keepText.desc).map (fun d => d.parameters.length) = some 0 := by decide +kernel
theorem hdV_X14_kindLine : yX14_kindLine.cls = RX14 ∧ yX14_kindLine.cls ≠ "java/lang/invoke/MethodHandle" ∧ yX14_kindLine.cls ≠ "java/lang/invoke/VarHandle" ∧ (parseMethodDescriptor yX14_kindLine.desc).map (fun d => d.parameters.length) = some 0 := by decide +kernel
theorem hdV_X14_knownBy : yX14_knownBy.cls = RX14 ∧ yX14_knownBy.cls ≠ "java/lang/invoke/MethodHandle" ∧ yX14_knownBy.cls ≠ "java/lang/invoke/VarHandle" ∧ (parseMethodDescriptor yX14_knownBy.desc).map (fun d => d.parameters.length) = some 0 := by decide +kernel
theorem hdV_X14_lawOf : yX14_lawOf.cls = RX14 ∧ yX14_lawOf.cls ≠ "java/lang/invoke/MethodHandle" ∧ yX14_lawOf.cls ≠ "java/lang/invoke/VarHandle" ∧ (parseMethodDescriptor yX14_lawOf.desc).map (fun d => d.parameters.length) = some 3 := by decide +kernel
theorem hdV_X14_layCounts : yX14_layCounts.cls = RX14 ∧ yX14_layCounts.cls ≠ "java/lang/invoke/MethodHandle" ∧ yX14_layCounts.cls ≠ "java/lang/invoke/VarHandle" ∧ (parseMethodDescriptor yX14_layCounts.desc).map (fun d => d.parameters.length) = some 0 := by decide +kernel
theorem hdV_X14_layFalls : yX14_layFalls.cls = RX14 ∧ yX14_layFalls.cls ≠ "java/lang/invoke/MethodHandle" ∧ yX14_layFalls.cls ≠ "java/lang/invoke/VarHandle" ∧ (parseMethodDescriptor yX14_layFalls.desc).map (fun d => d.parameters.length) = some 3 := by decide +kernel
theorem hdV_X14_layFar : yX14_layFar.cls = RX14 ∧ yX14_layFar.cls ≠ "java/lang/invoke/MethodHandle" ∧ yX14_layFar.cls ≠ "java/lang/invoke/VarHandle" ∧ (parseMethodDescriptor yX14_layFar.desc).map (fun d => d.parameters.length) = some 2 := by decide +kernel
theorem hdV_X14_layShown : yX14_layShown.cls = RX14 ∧ yX14_layShown.cls ≠ "java/lang/invoke/MethodHandle" ∧ yX14_layShown.cls ≠ "java/lang/invoke/VarHandle" ∧ (parseMethodDescriptor yX14_layShown.desc).map (fun d => d.parameters.length) = some 1 := by decide +kernel
theorem hdV_X14_layTales : yX14_layTales.cls = RX14 ∧ yX14_layTales.cls ≠ "java/lang/invoke/MethodHandle" ∧ yX14_layTales.cls ≠ "java/lang/invoke/VarHandle" ∧ (parseMethodDescriptor yX14_layTales.desc).map (fun d => d.parameters.length) = some 1 := by decide +kernel
theorem hdV_X14_layWays : yX14_layWays.cls = RX14 ∧ yX14_layWays.cls ≠ "java/lang/invoke/MethodHandle" ∧ yX14_layWays.cls ≠ "java/lang/invoke/VarHandle" ∧ (parseMethodDescriptor yX14_layWays.desc).map (fun d => d.parameters.length) = some 0 := by decide +kernel
theorem hdV_X14_leafRead : yX14_leafRead.cls = RX14 ∧ yX14_leafRead.cls ≠ "java/lang/invoke/MethodHandle" ∧ yX14_leafRead.cls ≠ "java/lang/invoke/VarHandle" ∧ (parseMethodDescriptor yX14_leafRead.desc).map (fun d => d.parameters.length) = some 0 := by decide +kernel
theorem hdV_X14_lineRead : yX14_lineRead.cls = RX14 ∧ yX14_lineRead.cls ≠ "java/lang/invoke/MethodHandle" ∧ yX14_lineRead.cls ≠ "java/lang/invoke/VarHandle" ∧ (parseMethodDescriptor yX14_lineRead.desc).map (fun d => d.parameters.length) = some 0 := by decide +kernel
theorem hdV_X14_manyReeds : yX14_manyReeds.cls = RX14 ∧ yX14_manyReeds.cls ≠ "java/lang/invoke/MethodHandle" ∧ yX14_manyReeds.cls ≠ "java/lang/invoke/VarHandle" ∧ (parseMethodDescriptor yX14_manyReeds.desc).map (fun d => d.parameters.length) = some 0 := by decide +kernel
theorem hdV_X14_mayLine : yX14_mayLine.cls = RX14 ∧ yX14_mayLine.cls ≠ "java/lang/invoke/MethodHandle" ∧ yX14_mayLine.cls ≠ "java/lang/invoke/VarHandle" ∧ (parseMethodDescriptor yX14_mayLine.desc).map (fun d => d.parameters.length) = some 0 := by decide +kernel
theorem hdV_X14_nameMet : yX14_nameMet.cls = RX14 ∧ yX14_nameMet.cls ≠ "java/lang/invoke/MethodHandle" ∧ yX14_nameMet.cls ≠ "java/lang/invoke/VarHandle" ∧ (parseMethodDescriptor yX14_nameMet.desc).map (fun d => d.parameters.length) = some 0 := by decide +kernel
theorem hdV_X14_newName : yX14_newName.cls = RX14 ∧ yX14_newName.cls ≠ "java/lang/invoke/MethodHandle" ∧ yX14_newName.cls ≠ "java/lang/invoke/VarHandle" ∧ (parseMethodDescriptor yX14_newName.desc).map (fun d => d.parameters.length) = some 3 := by decide +kernel
theorem hdV_X14_nextTo : yX14_nextTo.cls = RX14 ∧ yX14_nextTo.cls ≠ "java/lang/invoke/MethodHandle" ∧ yX14_nextTo.cls ≠ "java/lang/invoke/VarHandle" ∧ (parseMethodDescriptor yX14_nextTo.desc).map (fun d => d.parameters.length) = some 2 := by decide +kernel
theorem hdV_X14_noted : yX14_noted.cls = RX14 ∧ yX14_noted.cls ≠ "java/lang/invoke/MethodHandle" ∧ yX14_noted.cls ≠ "java/lang/invoke/VarHandle" ∧ (parseMethodDescriptor yX14_noted.desc).map (fun d => d.parameters.length) = some 3 := by decide +kernel
theorem hdV_X14_number : yX14_number.cls = RX14 ∧ yX14_number.cls ≠ "java/lang/invoke/MethodHandle" ∧ yX14_number.cls ≠ "java/lang/invoke/VarHandle" ∧ (parseMethodDescriptor yX14_number.desc).map (fun d => d.parameters.length) = some 2 := by decide +kernel
theorem hdV_X14_packed : yX14_packed.cls = RX14 ∧ yX14_packed.cls ≠ "java/lang/invoke/MethodHandle" ∧ yX14_packed.cls ≠ "java/lang/invoke/VarHandle" ∧ (parseMethodDescriptor yX14_packed.desc).map (fun d => d.parameters.length) = some 2 := by decide +kernel
theorem hdV_X14_partOf : yX14_partOf.cls = RX14 ∧ yX14_partOf.cls ≠ "java/lang/invoke/MethodHandle" ∧ yX14_partOf.cls ≠ "java/lang/invoke/VarHandle" ∧ (parseMethodDescriptor yX14_partOf.desc).map (fun d => d.parameters.length) = some 3 := by decide +kernel
theorem hdV_X14_plain : yX14_plain.cls = RX14 ∧ yX14_plain.cls ≠ "java/lang/invoke/MethodHandle" ∧ yX14_plain.cls ≠ "java/lang/invoke/VarHandle" ∧ (parseMethodDescriptor yX14_plain.desc).map (fun d => d.parameters.length) = some 0 := by decide +kernel
theorem hdV_X14_plainShores : yX14_plainShores.cls = RX14 ∧ yX14_plainShores.cls ≠ "java/lang/invoke/MethodHandle" ∧ yX14_plainShores.cls ≠ "java/lang/invoke/VarHandle" ∧ (parseMethodDescriptor yX14_plainShores.desc).map (fun d => d.parameters.length) = some 0 := by decide +kernel
theorem hdV_X14_remember : yX14_remember.cls = RX14 ∧ yX14_remember.cls ≠ "java/lang/invoke/MethodHandle" ∧ yX14_remember.cls ≠ "java/lang/invoke/VarHandle" ∧ (parseMethodDescriptor yX14_remember.desc).map (fun d => d.parameters.length) = some 1 := by decide +kernel
theorem hdV_X14_riseAt : yX14_riseAt.cls = RX14 ∧ yX14_riseAt.cls ≠ "java/lang/invoke/MethodHandle" ∧ yX14_riseAt.cls ≠ "java/lang/invoke/VarHandle" ∧ (parseMethodDescriptor yX14_riseAt.desc).map (fun d => d.parameters.length) = some 2 := by decide +kernel
theorem hdV_X14_riseIn : yX14_riseIn.cls = RX14 ∧ yX14_riseIn.cls ≠ "java/lang/invoke/MethodHandle" ∧ yX14_riseIn.cls ≠ "java/lang/invoke/VarHandle" ∧ (parseMethodDescriptor yX14_riseIn.desc).map (fun d => d.parameters.length) = some 2 := by decide +kernel
theorem hdV_X14_signToken : yX14_signToken.cls = RX14 ∧ yX14_signToken.cls ≠ "java/lang/invoke/MethodHandle" ∧ yX14_signToken.cls ≠ "java/lang/invoke/VarHandle" ∧ (parseMethodDescriptor yX14_signToken.desc).map (fun d => d.parameters.length) = some 0 := by decide +kernel
theorem hdV_X14_signed : yX14_signed.cls = RX14 ∧ yX14_signed.cls ≠ "java/lang/invoke/MethodHandle" ∧ yX14_signed.cls ≠ "java/lang/invoke/VarHandle" ∧ (parseMethodDescriptor yX14_signed.desc).map (fun d => d.parameters.length) = some 1 := by decide +kernel
theorem hdV_X14_signs : yX14_signs.cls = RX14 ∧ yX14_signs.cls ≠ "java/lang/invoke/MethodHandle" ∧ yX14_signs.cls ≠ "java/lang/invoke/VarHandle" ∧ (parseMethodDescriptor yX14_signs.desc).map (fun d => d.parameters.length) = some 0 := by decide +kernel
theorem hdV_X14_sumRead : yX14_sumRead.cls = RX14 ∧ yX14_sumRead.cls ≠ "java/lang/invoke/MethodHandle" ∧ yX14_sumRead.cls ≠ "java/lang/invoke/VarHandle" ∧ (parseMethodDescriptor yX14_sumRead.desc).map (fun d => d.parameters.length) = some 0 := by decide +kernel
theorem hdV_X14_tells : yX14_tells.cls = RX14 ∧ yX14_tells.cls ≠ "java/lang/invoke/MethodHandle" ∧ yX14_tells.cls ≠ "java/lang/invoke/VarHandle" ∧ (parseMethodDescriptor yX14_tells.desc).map (fun d => d.parameters.length) = some 3 := by decide +kernel
theorem hdV_X14_tellsAll : yX14_tellsAll.cls = RX14 ∧ yX14_tellsAll.cls ≠ "java/lang/invoke/MethodHandle" ∧ yX14_tellsAll.cls ≠ "java/lang/invoke/VarHandle" ∧ (parseMethodDescriptor yX14_tellsAll.desc).map (fun d => d.parameters.length) = some 1 := by decide +kernel
theorem hdV_X14_times : yX14_times.cls = RX14 ∧ yX14_times.cls ≠ "java/lang/invoke/MethodHandle" ∧ yX14_times.cls ≠ "java/lang/invoke/VarHandle" ∧ (parseMethodDescriptor yX14_times.desc).map (fun d => d.parameters.length) = some 2 := by decide +kernel
theorem hdV_X14_token : yX14_token.cls = RX14 ∧ yX14_token.cls ≠ "java/lang/invoke/MethodHandle" ∧ yX14_token.cls ≠ "java/lang/invoke/VarHandle" ∧ (parseMethodDescriptor yX14_token.desc).map (fun d => d.parameters.length) = some 0 := by decide +kernel
theorem hdV_X14_unlike : yX14_unlike.cls = RX14 ∧ yX14_unlike.cls ≠ "java/lang/invoke/MethodHandle" ∧ yX14_unlike.cls ≠ "java/lang/invoke/VarHandle" ∧ (parseMethodDescriptor yX14_unlike.desc).map (fun d => d.parameters.length) = some 2 := by decide +kernel
theorem hdV_X14_valueOf : yX14_valueOf.cls = RX14 ∧ yX14_valueOf.cls ≠ "java/lang/invoke/MethodHandle" ∧ yX14_valueOf.cls ≠ "java/lang/invoke/VarHandle" ∧ (parseMethodDescriptor yX14_valueOf.desc).map (fun d => d.parameters.length) = some 1 := by decide +kernel
theorem hdV_X14_waitsFor : yX14_waitsFor.cls = RX14 ∧ yX14_waitsFor.cls ≠ "java/lang/invoke/MethodHandle" ∧ yX14_waitsFor.cls ≠ "java/lang/invoke/VarHandle" ∧ (parseMethodDescriptor yX14_waitsFor.desc).map (fun d => d.parameters.length) = some 1 := by decide +kernel
theorem hdV_X14_waterRead : yX14_waterRead.cls = RX14 ∧ yX14_waterRead.cls ≠ "java/lang/invoke/MethodHandle" ∧ yX14_waterRead.cls ≠ "java/lang/invoke/VarHandle" ∧ (parseMethodDescriptor yX14_waterRead.desc).map (fun d => d.parameters.length) = some 0 := by decide +kernel
theorem hdV_X14_wordAt : yX14_wordAt.cls = RX14 ∧ yX14_wordAt.cls ≠ "java/lang/invoke/MethodHandle" ∧ yX14_wordAt.cls ≠ "java/lang/invoke/VarHandle" ∧ (parseMethodDescriptor yX14_wordAt.desc).map (fun d => d.parameters.length) = some 2 := by decide +kernel
theorem hdV_X14_wrong : yX14_wrong.cls = RX14 ∧ yX14_wrong.cls ≠ "java/lang/invoke/MethodHandle" ∧ yX14_wrong.cls ≠ "java/lang/invoke/VarHandle" ∧ (parseMethodDescriptor yX14_wrong.desc).map (fun d => d.parameters.length) = some 1 := by decide +kernel
theorem hdV_X14_wrongCell : yX14_wrongCell.cls = RX14 ∧ yX14_wrongCell.cls ≠ "java/lang/invoke/MethodHandle" ∧ yX14_wrongCell.cls ≠ "java/lang/invoke/VarHandle" ∧ (parseMethodDescriptor yX14_wrongCell.desc).map (fun d => d.parameters.length) = some 0 := by decide +kernel
theorem hdV_X1_add : yX1_add.cls = RX1 ∧ yX1_add.cls ≠ "java/lang/invoke/MethodHandle" ∧ yX1_add.cls ≠ "java/lang/invoke/VarHandle" ∧ (parseMethodDescriptor yX1_add.desc).map (fun d => d.parameters.length) = some 3 := by decide +kernel
theorem hdV_X1_cellBits : yX1_cellBits.cls = RX1 ∧ yX1_cellBits.cls ≠ "java/lang/invoke/MethodHandle" ∧ yX1_cellBits.cls ≠ "java/lang/invoke/VarHandle" ∧ (parseMethodDescriptor yX1_cellBits.desc).map (fun d => d.parameters.length) = some 0 := by decide +kernel
theorem hdV_X1_clear : yX1_clear.cls = RX1 ∧ yX1_clear.cls ≠ "java/lang/invoke/MethodHandle" ∧ yX1_clear.cls ≠ "java/lang/invoke/VarHandle" ∧ (parseMethodDescriptor yX1_clear.desc).map (fun d => d.parameters.length) = some 0 := by decide +kernel
theorem hdV_X1_copyOf : yX1_copyOf.cls = RX1 ∧ yX1_copyOf.cls ≠ "java/lang/invoke/MethodHandle" ∧ yX1_copyOf.cls ≠ "java/lang/invoke/VarHandle" ∧ (parseMethodDescriptor yX1_copyOf.desc).map (fun d => d.parameters.length) = some 1 := by decide +kernel
theorem hdV_X1_inCell : yX1_inCell.cls = RX1 ∧ yX1_inCell.cls ≠ "java/lang/invoke/MethodHandle" ∧ yX1_inCell.cls ≠ "java/lang/invoke/VarHandle" ∧ (parseMethodDescriptor yX1_inCell.desc).map (fun d => d.parameters.length) = some 1 := by decide +kernel
theorem hdV_X1_isFull : yX1_isFull.cls = RX1 ∧ yX1_isFull.cls ≠ "java/lang/invoke/MethodHandle" ∧ yX1_isFull.cls ≠ "java/lang/invoke/VarHandle" ∧ (parseMethodDescriptor yX1_isFull.desc).map (fun d => d.parameters.length) = some 0 := by decide +kernel
theorem hdV_X1_part : yX1_part.cls = RX1 ∧ yX1_part.cls ≠ "java/lang/invoke/MethodHandle" ∧ yX1_part.cls ≠ "java/lang/invoke/VarHandle" ∧ (parseMethodDescriptor yX1_part.desc).map (fun d => d.parameters.length) = some 2 := by decide +kernel
theorem hdV_X1_removeLast : yX1_removeLast.cls = RX1 ∧ yX1_removeLast.cls ≠ "java/lang/invoke/MethodHandle" ∧ yX1_removeLast.cls ≠ "java/lang/invoke/VarHandle" ∧ (parseMethodDescriptor yX1_removeLast.desc).map (fun d => d.parameters.length) = some 0 := by decide +kernel
theorem hdV_X2_differenceFrom : yX2_differenceFrom.cls = RX2 ∧ yX2_differenceFrom.cls ≠ "java/lang/invoke/MethodHandle" ∧ yX2_differenceFrom.cls ≠ "java/lang/invoke/VarHandle" ∧ (parseMethodDescriptor yX2_differenceFrom.desc).map (fun d => d.parameters.length) = some 2 := by decide +kernel
theorem hdV_X2_drawNumber : yX2_drawNumber.cls = RX2 ∧ yX2_drawNumber.cls ≠ "java/lang/invoke/MethodHandle" ∧ yX2_drawNumber.cls ≠ "java/lang/invoke/VarHandle" ∧ (parseMethodDescriptor yX2_drawNumber.desc).map (fun d => d.parameters.length) = some 1 := by decide +kernel
theorem hdV_X2_drawnRise : yX2_drawnRise.cls = RX2 ∧ yX2_drawnRise.cls ≠ "java/lang/invoke/MethodHandle" ∧ yX2_drawnRise.cls ≠ "java/lang/invoke/VarHandle" ∧ (parseMethodDescriptor yX2_drawnRise.desc).map (fun d => d.parameters.length) = some 3 := by decide +kernel
theorem hdV_X2_drawsAbove : yX2_drawsAbove.cls = RX2 ∧ yX2_drawsAbove.cls ≠ "java/lang/invoke/MethodHandle" ∧ yX2_drawsAbove.cls ≠ "java/lang/invoke/VarHandle" ∧ (parseMethodDescriptor yX2_drawsAbove.desc).map (fun d => d.parameters.length) = some 5 := by decide +kernel
theorem hdV_X2_fewestCorks : yX2_fewestCorks.cls = RX2 ∧ yX2_fewestCorks.cls ≠ "java/lang/invoke/MethodHandle" ∧ yX2_fewestCorks.cls ≠ "java/lang/invoke/VarHandle" ∧ (parseMethodDescriptor yX2_fewestCorks.desc).map (fun d => d.parameters.length) = some 3 := by decide +kernel
theorem hdV_X2_fitsBy : yX2_fitsBy.cls = RX2 ∧ yX2_fitsBy.cls ≠ "java/lang/invoke/MethodHandle" ∧ yX2_fitsBy.cls ≠ "java/lang/invoke/VarHandle" ∧ (parseMethodDescriptor yX2_fitsBy.desc).map (fun d => d.parameters.length) = some 2 := by decide +kernel
theorem hdV_X2_fittingShores : yX2_fittingShores.cls = RX2 ∧ yX2_fittingShores.cls ≠ "java/lang/invoke/MethodHandle" ∧ yX2_fittingShores.cls ≠ "java/lang/invoke/VarHandle" ∧ (parseMethodDescriptor yX2_fittingShores.desc).map (fun d => d.parameters.length) = some 0 := by decide +kernel
theorem hdV_X2_gatherCompared : yX2_gatherCompared.cls = RX2 ∧ yX2_gatherCompared.cls ≠ "java/lang/invoke/MethodHandle" ∧ yX2_gatherCompared.cls ≠ "java/lang/invoke/VarHandle" ∧ (parseMethodDescriptor yX2_gatherCompared.desc).map (fun d => d.parameters.length) = some 3 := by decide +kernel
theorem hdV_X2_isTale : yX2_isTale.cls = RX2 ∧ yX2_isTale.cls ≠ "java/lang/invoke/MethodHandle" ∧ yX2_isTale.cls ≠ "java/lang/invoke/VarHandle" ∧ (parseMethodDescriptor yX2_isTale.desc).map (fun d => d.parameters.length) = some 4 := by decide +kernel
theorem hdV_X2_markTeller : yX2_markTeller.cls = RX2 ∧ yX2_markTeller.cls ≠ "java/lang/invoke/MethodHandle" ∧ yX2_markTeller.cls ≠ "java/lang/invoke/VarHandle" ∧ (parseMethodDescriptor yX2_markTeller.desc).map (fun d => d.parameters.length) = some 1 := by decide +kernel
theorem hdV_X2_riseBy : yX2_riseBy.cls = RX2 ∧ yX2_riseBy.cls ≠ "java/lang/invoke/MethodHandle" ∧ yX2_riseBy.cls ≠ "java/lang/invoke/VarHandle" ∧ (parseMethodDescriptor yX2_riseBy.desc).map (fun d => d.parameters.length) = some 3 := by decide +kernel
theorem hdV_X2_rowsDiffer : yX2_rowsDiffer.cls = RX2 ∧ yX2_rowsDiffer.cls ≠ "java/lang/invoke/MethodHandle" ∧ yX2_rowsDiffer.cls ≠ "java/lang/invoke/VarHandle" ∧ (parseMethodDescriptor yX2_rowsDiffer.desc).map (fun d => d.parameters.length) = some 2 := by decide +kernel
theorem hdV_X2_seekNearest : yX2_seekNearest.cls = RX2 ∧ yX2_seekNearest.cls ≠ "java/lang/invoke/MethodHandle" ∧ yX2_seekNearest.cls ≠ "java/lang/invoke/VarHandle" ∧ (parseMethodDescriptor yX2_seekNearest.desc).map (fun d => d.parameters.length) = some 3 := by decide +kernel
theorem hdV_X2_showCompared : yX2_showCompared.cls = RX2 ∧ yX2_showCompared.cls ≠ "java/lang/invoke/MethodHandle" ∧ yX2_showCompared.cls ≠ "java/lang/invoke/VarHandle" ∧ (parseMethodDescriptor yX2_showCompared.desc).map (fun d => d.parameters.length) = some 1 := by decide +kernel
theorem hdV_X2_showRow : yX2_showRow.cls = RX2 ∧ yX2_showRow.cls ≠ "java/lang/invoke/MethodHandle" ∧ yX2_showRow.cls ≠ "java/lang/invoke/VarHandle" ∧ (parseMethodDescriptor yX2_showRow.desc).map (fun d => d.parameters.length) = some 4 := by decide +kernel
theorem hdV_X2_stillCells : yX2_stillCells.cls = RX2 ∧ yX2_stillCells.cls ≠ "java/lang/invoke/MethodHandle" ∧ yX2_stillCells.cls ≠ "java/lang/invoke/VarHandle" ∧ (parseMethodDescriptor yX2_stillCells.desc).map (fun d => d.parameters.length) = some 5 := by decide +kernel
theorem hdV_X2_tellsApart : yX2_tellsApart.cls = RX2 ∧ yX2_tellsApart.cls ≠ "java/lang/invoke/MethodHandle" ∧ yX2_tellsApart.cls ≠ "java/lang/invoke/VarHandle" ∧ (parseMethodDescriptor yX2_tellsApart.desc).map (fun d => d.parameters.length) = some 1 := by decide +kernel
theorem hdV_X2_walkCells : yX2_walkCells.cls = RX2 ∧ yX2_walkCells.cls ≠ "java/lang/invoke/MethodHandle" ∧ yX2_walkCells.cls ≠ "java/lang/invoke/VarHandle" ∧ (parseMethodDescriptor yX2_walkCells.desc).map (fun d => d.parameters.length) = some 4 := by decide +kernel
theorem hdV_X2_walkTales : yX2_walkTales.cls = RX2 ∧ yX2_walkTales.cls ≠ "java/lang/invoke/MethodHandle" ∧ yX2_walkTales.cls ≠ "java/lang/invoke/VarHandle" ∧ (parseMethodDescriptor yX2_walkTales.desc).map (fun d => d.parameters.length) = some 1 := by decide +kernel
theorem hdV_X3_add : yX3_add.cls = RX3 ∧ yX3_add.cls ≠ "java/lang/invoke/MethodHandle" ∧ yX3_add.cls ≠ "java/lang/invoke/VarHandle" ∧ (parseMethodDescriptor yX3_add.desc).map (fun d => d.parameters.length) = some 2 := by decide +kernel
theorem hdV_X3_clear : yX3_clear.cls = RX3 ∧ yX3_clear.cls ≠ "java/lang/invoke/MethodHandle" ∧ yX3_clear.cls ≠ "java/lang/invoke/VarHandle" ∧ (parseMethodDescriptor yX3_clear.desc).map (fun d => d.parameters.length) = some 0 := by decide +kernel
theorem hdV_X3_isEmpty : yX3_isEmpty.cls = RX3 ∧ yX3_isEmpty.cls ≠ "java/lang/invoke/MethodHandle" ∧ yX3_isEmpty.cls ≠ "java/lang/invoke/VarHandle" ∧ (parseMethodDescriptor yX3_isEmpty.desc).map (fun d => d.parameters.length) = some 0 := by decide +kernel
theorem hdV_X3_worth : yX3_worth.cls = RX3 ∧ yX3_worth.cls ≠ "java/lang/invoke/MethodHandle" ∧ yX3_worth.cls ≠ "java/lang/invoke/VarHandle" ∧ (parseMethodDescriptor yX3_worth.desc).map (fun d => d.parameters.length) = some 5 := by decide +kernel
theorem hdV_X4_addSight : yX4_addSight.cls = RX4 ∧ yX4_addSight.cls ≠ "java/lang/invoke/MethodHandle" ∧ yX4_addSight.cls ≠ "java/lang/invoke/VarHandle" ∧ (parseMethodDescriptor yX4_addSight.desc).map (fun d => d.parameters.length) = some 3 := by decide +kernel
theorem hdV_X4_addStrike : yX4_addStrike.cls = RX4 ∧ yX4_addStrike.cls ≠ "java/lang/invoke/MethodHandle" ∧ yX4_addStrike.cls ≠ "java/lang/invoke/VarHandle" ∧ (parseMethodDescriptor yX4_addStrike.desc).map (fun d => d.parameters.length) = some 1 := by decide +kernel
theorem hdV_X4_clear : yX4_clear.cls = RX4 ∧ yX4_clear.cls ≠ "java/lang/invoke/MethodHandle" ∧ yX4_clear.cls ≠ "java/lang/invoke/VarHandle" ∧ (parseMethodDescriptor yX4_clear.desc).map (fun d => d.parameters.length) = some 0 := by decide +kernel
theorem hdV_X4_knownBy : yX4_knownBy.cls = RX4 ∧ yX4_knownBy.cls ≠ "java/lang/invoke/MethodHandle" ∧ yX4_knownBy.cls ≠ "java/lang/invoke/VarHandle" ∧ (parseMethodDescriptor yX4_knownBy.desc).map (fun d => d.parameters.length) = some 0 := by decide +kernel
theorem hdV_X4_knownSights : yX4_knownSights.cls = RX4 ∧ yX4_knownSights.cls ≠ "java/lang/invoke/MethodHandle" ∧ yX4_knownSights.cls ≠ "java/lang/invoke/VarHandle" ∧ (parseMethodDescriptor yX4_knownSights.desc).map (fun d => d.parameters.length) = some 0 := by decide +kernel
theorem hdV_X4_limitTo : yX4_limitTo.cls = RX4 ∧ yX4_limitTo.cls ≠ "java/lang/invoke/MethodHandle" ∧ yX4_limitTo.cls ≠ "java/lang/invoke/VarHandle" ∧ (parseMethodDescriptor yX4_limitTo.desc).map (fun d => d.parameters.length) = some 1 := by decide +kernel
theorem hdV_X5_cells : yX5_cells.cls = RX5 ∧ yX5_cells.cls ≠ "java/lang/invoke/MethodHandle" ∧ yX5_cells.cls ≠ "java/lang/invoke/VarHandle" ∧ (parseMethodDescriptor yX5_cells.desc).map (fun d => d.parameters.length) = some 0 := by decide +kernel
theorem hdV_X5_clear : yX5_clear.cls = RX5 ∧ yX5_clear.cls ≠ "java/lang/invoke/MethodHandle" ∧ yX5_clear.cls ≠ "java/lang/invoke/VarHandle" ∧ (parseMethodDescriptor yX5_clear.desc).map (fun d => d.parameters.length) = some 0 := by decide +kernel
theorem hdV_X5_isCell : yX5_isCell.cls = RX5 ∧ yX5_isCell.cls ≠ "java/lang/invoke/MethodHandle" ∧ yX5_isCell.cls ≠ "java/lang/invoke/VarHandle" ∧ (parseMethodDescriptor yX5_isCell.desc).map (fun d => d.parameters.length) = some 1 := by decide +kernel
theorem hdV_X5_isWet : yX5_isWet.cls = RX5 ∧ yX5_isWet.cls ≠ "java/lang/invoke/MethodHandle" ∧ yX5_isWet.cls ≠ "java/lang/invoke/VarHandle" ∧ (parseMethodDescriptor yX5_isWet.desc).map (fun d => d.parameters.length) = some 1 := by decide +kernel
theorem hdV_X5_risesOf : yX5_risesOf.cls = RX5 ∧ yX5_risesOf.cls ≠ "java/lang/invoke/MethodHandle" ∧ yX5_risesOf.cls ≠ "java/lang/invoke/VarHandle" ∧ (parseMethodDescriptor yX5_risesOf.desc).map (fun d => d.parameters.length) = some 1 := by decide +kernel
theorem hdV_X5_shoresOf : yX5_shoresOf.cls = RX5 ∧ yX5_shoresOf.cls ≠ "java/lang/invoke/MethodHandle" ∧ yX5_shoresOf.cls ≠ "java/lang/invoke/VarHandle" ∧ (parseMethodDescriptor yX5_shoresOf.desc).map (fun d => d.parameters.length) = some 1 := by decide +kernel
theorem hdV_X5_usedCells : yX5_usedCells.cls = RX5 ∧ yX5_usedCells.cls ≠ "java/lang/invoke/MethodHandle" ∧ yX5_usedCells.cls ≠ "java/lang/invoke/VarHandle" ∧ (parseMethodDescriptor yX5_usedCells.desc).map (fun d => d.parameters.length) = some 0 := by decide +kernel
theorem hdV_X6_addSum : yX6_addSum.cls = RX6 ∧ yX6_addSum.cls ≠ "java/lang/invoke/MethodHandle" ∧ yX6_addSum.cls ≠ "java/lang/invoke/VarHandle" ∧ (parseMethodDescriptor yX6_addSum.desc).map (fun d => d.parameters.length) = some 3 := by decide +kernel
theorem hdV_X6_alone : yX6_alone.cls = RX6 ∧ yX6_alone.cls ≠ "java/lang/invoke/MethodHandle" ∧ yX6_alone.cls ≠ "java/lang/invoke/VarHandle" ∧ (parseMethodDescriptor yX6_alone.desc).map (fun d => d.parameters.length) = some 5 := by decide +kernel
theorem hdV_X6_farBy : yX6_farBy.cls = RX6 ∧ yX6_farBy.cls ≠ "java/lang/invoke/MethodHandle" ∧ yX6_farBy.cls ≠ "java/lang/invoke/VarHandle" ∧ (parseMethodDescriptor yX6_farBy.desc).map (fun d => d.parameters.length) = some 3 := by decide +kernel
theorem hdV_X6_farOf : yX6_farOf.cls = RX6 ∧ yX6_farOf.cls ≠ "java/lang/invoke/MethodHandle" ∧ yX6_farOf.cls ≠ "java/lang/invoke/VarHandle" ∧ (parseMethodDescriptor yX6_farOf.desc).map (fun d => d.parameters.length) = some 2 := by decide +kernel
theorem hdV_X6_freshenSums : yX6_freshenSums.cls = RX6 ∧ yX6_freshenSums.cls ≠ "java/lang/invoke/MethodHandle" ∧ yX6_freshenSums.cls ≠ "java/lang/invoke/VarHandle" ∧ (parseMethodDescriptor yX6_freshenSums.desc).map (fun d => d.parameters.length) = some 0 := by decide +kernel
theorem hdV_X6_freshenWays : yX6_freshenWays.cls = RX6 ∧ yX6_freshenWays.cls ≠ "java/lang/invoke/MethodHandle" ∧ yX6_freshenWays.cls ≠ "java/lang/invoke/VarHandle" ∧ (parseMethodDescriptor yX6_freshenWays.desc).map (fun d => d.parameters.length) = some 0 := by decide +kernel
theorem hdV_X6_handOn : yX6_handOn.cls = RX6 ∧ yX6_handOn.cls ≠ "java/lang/invoke/MethodHandle" ∧ yX6_handOn.cls ≠ "java/lang/invoke/VarHandle" ∧ (parseMethodDescriptor yX6_handOn.desc).map (fun d => d.parameters.length) = some 3 := by decide +kernel
theorem hdV_X6_layNeighbours : yX6_layNeighbours.cls = RX6 ∧ yX6_layNeighbours.cls ≠ "java/lang/invoke/MethodHandle" ∧ yX6_layNeighbours.cls ≠ "java/lang/invoke/VarHandle" ∧ (parseMethodDescriptor yX6_layNeighbours.desc).map (fun d => d.parameters.length) = some 0 := by decide +kernel
theorem hdV_X6_nearOf : yX6_nearOf.cls = RX6 ∧ yX6_nearOf.cls ≠ "java/lang/invoke/MethodHandle" ∧ yX6_nearOf.cls ≠ "java/lang/invoke/VarHandle" ∧ (parseMethodDescriptor yX6_nearOf.desc).map (fun d => d.parameters.length) = some 2 := by decide +kernel
theorem hdV_X6_partOf : yX6_partOf.cls = RX6 ∧ yX6_partOf.cls ≠ "java/lang/invoke/MethodHandle" ∧ yX6_partOf.cls ≠ "java/lang/invoke/VarHandle" ∧ (parseMethodDescriptor yX6_partOf.desc).map (fun d => d.parameters.length) = some 3 := by decide +kernel
theorem hdV_X6_peakStep : yX6_peakStep.cls = RX6 ∧ yX6_peakStep.cls ≠ "java/lang/invoke/MethodHandle" ∧ yX6_peakStep.cls ≠ "java/lang/invoke/VarHandle" ∧ (parseMethodDescriptor yX6_peakStep.desc).map (fun d => d.parameters.length) = some 2 := by decide +kernel
theorem hdV_X6_pour : yX6_pour.cls = RX6 ∧ yX6_pour.cls ≠ "java/lang/invoke/MethodHandle" ∧ yX6_pour.cls ≠ "java/lang/invoke/VarHandle" ∧ (parseMethodDescriptor yX6_pour.desc).map (fun d => d.parameters.length) = some 4 := by decide +kernel
theorem hdV_X6_pourBy : yX6_pourBy.cls = RX6 ∧ yX6_pourBy.cls ≠ "java/lang/invoke/MethodHandle" ∧ yX6_pourBy.cls ≠ "java/lang/invoke/VarHandle" ∧ (parseMethodDescriptor yX6_pourBy.desc).map (fun d => d.parameters.length) = some 3 := by decide +kernel
theorem hdV_X6_sentOf : yX6_sentOf.cls = RX6 ∧ yX6_sentOf.cls ≠ "java/lang/invoke/MethodHandle" ∧ yX6_sentOf.cls ≠ "java/lang/invoke/VarHandle" ∧ (parseMethodDescriptor yX6_sentOf.desc).map (fun d => d.parameters.length) = some 3 := by decide +kernel
theorem hdV_X6_setNear : yX6_setNear.cls = RX6 ∧ yX6_setNear.cls ≠ "java/lang/invoke/MethodHandle" ∧ yX6_setNear.cls ≠ "java/lang/invoke/VarHandle" ∧ (parseMethodDescriptor yX6_setNear.desc).map (fun d => d.parameters.length) = some 4 := by decide +kernel
theorem hdV_X6_spread : yX6_spread.cls = RX6 ∧ yX6_spread.cls ≠ "java/lang/invoke/MethodHandle" ∧ yX6_spread.cls ≠ "java/lang/invoke/VarHandle" ∧ (parseMethodDescriptor yX6_spread.desc).map (fun d => d.parameters.length) = some 1 := by decide +kernel
theorem hdV_X6_spreadRises : yX6_spreadRises.cls = RX6 ∧ yX6_spreadRises.cls ≠ "java/lang/invoke/MethodHandle" ∧ yX6_spreadRises.cls ≠ "java/lang/invoke/VarHandle" ∧ (parseMethodDescriptor yX6_spreadRises.desc).map (fun d => d.parameters.length) = some 3 := by decide +kernel
theorem hdV_X6_sumAt : yX6_sumAt.cls = RX6 ∧ yX6_sumAt.cls ≠ "java/lang/invoke/MethodHandle" ∧ yX6_sumAt.cls ≠ "java/lang/invoke/VarHandle" ∧ (parseMethodDescriptor yX6_sumAt.desc).map (fun d => d.parameters.length) = some 2 := by decide +kernel
theorem hdV_X6_weakOf : yX6_weakOf.cls = RX6 ∧ yX6_weakOf.cls ≠ "java/lang/invoke/MethodHandle" ∧ yX6_weakOf.cls ≠ "java/lang/invoke/VarHandle" ∧ (parseMethodDescriptor yX6_weakOf.desc).map (fun d => d.parameters.length) = some 2 := by decide +kernel
theorem hdV_X7_add : yX7_add.cls = RX7 ∧ yX7_add.cls ≠ "java/lang/invoke/MethodHandle" ∧ yX7_add.cls ≠ "java/lang/invoke/VarHandle" ∧ (parseMethodDescriptor yX7_add.desc).map (fun d => d.parameters.length) = some 1 := by decide +kernel
theorem hdV_X7_cellBits : yX7_cellBits.cls = RX7 ∧ yX7_cellBits.cls ≠ "java/lang/invoke/MethodHandle" ∧ yX7_cellBits.cls ≠ "java/lang/invoke/VarHandle" ∧ (parseMethodDescriptor yX7_cellBits.desc).map (fun d => d.parameters.length) = some 0 := by decide +kernel
theorem hdV_X7_clear : yX7_clear.cls = RX7 ∧ yX7_clear.cls ≠ "java/lang/invoke/MethodHandle" ∧ yX7_clear.cls ≠ "java/lang/invoke/VarHandle" ∧ (parseMethodDescriptor yX7_clear.desc).map (fun d => d.parameters.length) = some 0 := by decide +kernel
theorem hdV_X7_has : yX7_has.cls = RX7 ∧ yX7_has.cls ≠ "java/lang/invoke/MethodHandle" ∧ yX7_has.cls ≠ "java/lang/invoke/VarHandle" ∧ (parseMethodDescriptor yX7_has.desc).map (fun d => d.parameters.length) = some 1 := by decide +kernel
theorem hdV_X7_indexOf : yX7_indexOf.cls = RX7 ∧ yX7_indexOf.cls ≠ "java/lang/invoke/MethodHandle" ∧ yX7_indexOf.cls ≠ "java/lang/invoke/VarHandle" ∧ (parseMethodDescriptor yX7_indexOf.desc).map (fun d => d.parameters.length) = some 1 := by decide +kernel
theorem hdV_X7_isFull : yX7_isFull.cls = RX7 ∧ yX7_isFull.cls ≠ "java/lang/invoke/MethodHandle" ∧ yX7_isFull.cls ≠ "java/lang/invoke/VarHandle" ∧ (parseMethodDescriptor yX7_isFull.desc).map (fun d => d.parameters.length) = some 0 := by decide +kernel
theorem hdV_X7_orZero : yX7_orZero.cls = RX7 ∧ yX7_orZero.cls ≠ "java/lang/invoke/MethodHandle" ∧ yX7_orZero.cls ≠ "java/lang/invoke/VarHandle" ∧ (parseMethodDescriptor yX7_orZero.desc).map (fun d => d.parameters.length) = some 1 := by decide +kernel
theorem hdV_X8_arrival : yX8_arrival.cls = RX8 ∧ yX8_arrival.cls ≠ "java/lang/invoke/MethodHandle" ∧ yX8_arrival.cls ≠ "java/lang/invoke/VarHandle" ∧ (parseMethodDescriptor yX8_arrival.desc).map (fun d => d.parameters.length) = some 2 := by decide +kernel
theorem hdV_X8_arrivalOnPath : yX8_arrivalOnPath.cls = RX8 ∧ yX8_arrivalOnPath.cls ≠ "java/lang/invoke/MethodHandle" ∧ yX8_arrivalOnPath.cls ≠ "java/lang/invoke/VarHandle" ∧ (parseMethodDescriptor yX8_arrivalOnPath.desc).map (fun d => d.parameters.length) = some 2 := by decide +kernel
theorem hdV_X8_cellAhead : yX8_cellAhead.cls = RX8 ∧ yX8_cellAhead.cls ≠ "java/lang/invoke/MethodHandle" ∧ yX8_cellAhead.cls ≠ "java/lang/invoke/VarHandle" ∧ (parseMethodDescriptor yX8_cellAhead.desc).map (fun d => d.parameters.length) = some 2 := by decide +kernel
theorem hdV_X8_drive : yX8_drive.cls = RX8 ∧ yX8_drive.cls ≠ "java/lang/invoke/MethodHandle" ∧ yX8_drive.cls ≠ "java/lang/invoke/VarHandle" ∧ (parseMethodDescriptor yX8_drive.desc).map (fun d => d.parameters.length) = some 3 := by decide +kernel
theorem hdV_X8_firstSeen : yX8_firstSeen.cls = RX8 ∧ yX8_firstSeen.cls ≠ "java/lang/invoke/MethodHandle" ∧ yX8_firstSeen.cls ≠ "java/lang/invoke/VarHandle" ∧ (parseMethodDescriptor yX8_firstSeen.desc).map (fun d => d.parameters.length) = some 3 := by decide +kernel
theorem hdV_X8_firstSkater : yX8_firstSkater.cls = RX8 ∧ yX8_firstSkater.cls ≠ "java/lang/invoke/MethodHandle" ∧ yX8_firstSkater.cls ≠ "java/lang/invoke/VarHandle" ∧ (parseMethodDescriptor yX8_firstSkater.desc).map (fun d => d.parameters.length) = some 1 := by decide +kernel
theorem hdV_X8_follow : yX8_follow.cls = RX8 ∧ yX8_follow.cls ≠ "java/lang/invoke/MethodHandle" ∧ yX8_follow.cls ≠ "java/lang/invoke/VarHandle" ∧ (parseMethodDescriptor yX8_follow.desc).map (fun d => d.parameters.length) = some 2 := by decide +kernel
theorem hdV_X8_isLie : yX8_isLie.cls = RX8 ∧ yX8_isLie.cls ≠ "java/lang/invoke/MethodHandle" ∧ yX8_isLie.cls ≠ "java/lang/invoke/VarHandle" ∧ (parseMethodDescriptor yX8_isLie.desc).map (fun d => d.parameters.length) = some 6 := by decide +kernel
theorem hdV_X8_next : yX8_next.cls = RX8 ∧ yX8_next.cls ≠ "java/lang/invoke/MethodHandle" ∧ yX8_next.cls ≠ "java/lang/invoke/VarHandle" ∧ (parseMethodDescriptor yX8_next.desc).map (fun d => d.parameters.length) = some 2 := by decide +kernel
theorem hdV_X8_seekLie : yX8_seekLie.cls = RX8 ∧ yX8_seekLie.cls ≠ "java/lang/invoke/MethodHandle" ∧ yX8_seekLie.cls ≠ "java/lang/invoke/VarHandle" ∧ (parseMethodDescriptor yX8_seekLie.desc).map (fun d => d.parameters.length) = some 4 := by decide +kernel
theorem hdV_X9_beginCells : yX9_beginCells.cls = RX9 ∧ yX9_beginCells.cls ≠ "java/lang/invoke/MethodHandle" ∧ yX9_beginCells.cls ≠ "java/lang/invoke/VarHandle" ∧ (parseMethodDescriptor yX9_beginCells.desc).map (fun d => d.parameters.length) = some 1 := by decide +kernel
theorem hdV_X9_hold : yX9_hold.cls = RX9 ∧ yX9_hold.cls ≠ "java/lang/invoke/MethodHandle" ∧ yX9_hold.cls ≠ "java/lang/invoke/VarHandle" ∧ (parseMethodDescriptor yX9_hold.desc).map (fun d => d.parameters.length) = some 2 := by decide +kernel
theorem hdV_X9_isRoomForKnot : yX9_isRoomForKnot.cls = RX9 ∧ yX9_isRoomForKnot.cls ≠ "java/lang/invoke/MethodHandle" ∧ yX9_isRoomForKnot.cls ≠ "java/lang/invoke/VarHandle" ∧ (parseMethodDescriptor yX9_isRoomForKnot.desc).map (fun d => d.parameters.length) = some 0 := by decide +kernel
theorem hdV_X9_lawEnds : yX9_lawEnds.cls = RX9 ∧ yX9_lawEnds.cls ≠ "java/lang/invoke/MethodHandle" ∧ yX9_lawEnds.cls ≠ "java/lang/invoke/VarHandle" ∧ (parseMethodDescriptor yX9_lawEnds.desc).map (fun d => d.parameters.length) = some 0 := by decide +kernel
theorem hdV_X9_lineEnds : yX9_lineEnds.cls = RX9 ∧ yX9_lineEnds.cls ≠ "java/lang/invoke/MethodHandle" ∧ yX9_lineEnds.cls ≠ "java/lang/invoke/VarHandle" ∧ (parseMethodDescriptor yX9_lineEnds.desc).map (fun d => d.parameters.length) = some 0 := by decide +kernel
theorem hdV_X9_read : yX9_read.cls = RX9 ∧ yX9_read.cls ≠ "java/lang/invoke/MethodHandle" ∧ yX9_read.cls ≠ "java/lang/invoke/VarHandle" ∧ (parseMethodDescriptor yX9_read.desc).map (fun d => d.parameters.length) = some 2 := by decide +kernel
theorem hdV_X9_readBehindOperand : yX9_readBehindOperand.cls = RX9 ∧ yX9_readBehindOperand.cls ≠ "java/lang/invoke/MethodHandle" ∧ yX9_readBehindOperand.cls ≠ "java/lang/invoke/VarHandle" ∧ (parseMethodDescriptor yX9_readBehindOperand.desc).map (fun d => d.parameters.length) = some 0 := by decide +kernel
theorem hdV_X9_readCell : yX9_readCell.cls = RX9 ∧ yX9_readCell.cls ≠ "java/lang/invoke/MethodHandle" ∧ yX9_readCell.cls ≠ "java/lang/invoke/VarHandle" ∧ (parseMethodDescriptor yX9_readCell.desc).map (fun d => d.parameters.length) = some 1 := by decide +kernel
theorem hdV_X9_readClose : yX9_readClose.cls = RX9 ∧ yX9_readClose.cls ≠ "java/lang/invoke/MethodHandle" ∧ yX9_readClose.cls ≠ "java/lang/invoke/VarHandle" ∧ (parseMethodDescriptor yX9_readClose.desc).map (fun d => d.parameters.length) = some 0 := by decide +kernel
theorem hdV_X9_readDrop : yX9_readDrop.cls = RX9 ∧ yX9_readDrop.cls ≠ "java/lang/invoke/MethodHandle" ∧ yX9_readDrop.cls ≠ "java/lang/invoke/VarHandle" ∧ (parseMethodDescriptor yX9_readDrop.desc).map (fun d => d.parameters.length) = some 0 := by decide +kernel
theorem hdV_X9_readKind : yX9_readKind.cls = RX9 ∧ yX9_readKind.cls ≠ "java/lang/invoke/MethodHandle" ∧ yX9_readKind.cls ≠ "java/lang/invoke/VarHandle" ∧ (parseMethodDescriptor yX9_readKind.desc).map (fun d => d.parameters.length) = some 0 := by decide +kernel
theorem hdV_X9_readLand : yX9_readLand.cls = RX9 ∧ yX9_readLand.cls ≠ "java/lang/invoke/MethodHandle" ∧ yX9_readLand.cls ≠ "java/lang/invoke/VarHandle" ∧ (parseMethodDescriptor yX9_readLand.desc).map (fun d => d.parameters.length) = some 0 := by decide +kernel
theorem hdV_X9_readLaw : yX9_readLaw.cls = RX9 ∧ yX9_readLaw.cls ≠ "java/lang/invoke/MethodHandle" ∧ yX9_readLaw.cls ≠ "java/lang/invoke/VarHandle" ∧ (parseMethodDescriptor yX9_readLaw.desc).map (fun d => d.parameters.length) = some 0 := by decide +kernel
theorem hdV_X9_readLeaf : yX9_readLeaf.cls = RX9 ∧ yX9_readLeaf.cls ≠ "java/lang/invoke/MethodHandle" ∧ yX9_readLeaf.cls ≠ "java/lang/invoke/VarHandle" ∧ (parseMethodDescriptor yX9_readLeaf.desc).map (fun d => d.parameters.length) = some 1 := by decide +kernel
theorem hdV_X9_readLine : yX9_readLine.cls = RX9 ∧ yX9_readLine.cls ≠ "java/lang/invoke/MethodHandle" ∧ yX9_readLine.cls ≠ "java/lang/invoke/VarHandle" ∧ (parseMethodDescriptor yX9_readLine.desc).map (fun d => d.parameters.length) = some 0 := by decide +kernel
theorem hdV_X9_readLoss : yX9_readLoss.cls = RX9 ∧ yX9_readLoss.cls ≠ "java/lang/invoke/MethodHandle" ∧ yX9_readLoss.cls ≠ "java/lang/invoke/VarHandle" ∧ (parseMethodDescriptor yX9_readLoss.desc).map (fun d => d.parameters.length) = some 0 := by decide +kernel
theorem hdV_X9_readMay : yX9_readMay.cls = RX9 ∧ yX9_readMay.cls ≠ "java/lang/invoke/MethodHandle" ∧ yX9_readMay.cls ≠ "java/lang/invoke/VarHandle" ∧ (parseMethodDescriptor yX9_readMay.desc).map (fun d => d.parameters.length) = some 0 := by decide +kernel
theorem hdV_X9_readNewName : yX9_readNewName.cls = RX9 ∧ yX9_readNewName.cls ≠ "java/lang/invoke/MethodHandle" ∧ yX9_readNewName.cls ≠ "java/lang/invoke/VarHandle" ∧ (parseMethodDescriptor yX9_readNewName.desc).map (fun d => d.parameters.length) = some 1 := by decide +kernel
theorem hdV_X9_readNumber : yX9_readNumber.cls = RX9 ∧ yX9_readNumber.cls ≠ "java/lang/invoke/MethodHandle" ∧ yX9_readNumber.cls ≠ "java/lang/invoke/VarHandle" ∧ (parseMethodDescriptor yX9_readNumber.desc).map (fun d => d.parameters.length) = some 2 := by decide +kernel
theorem hdV_X9_readOnce : yX9_readOnce.cls = RX9 ∧ yX9_readOnce.cls ≠ "java/lang/invoke/MethodHandle" ∧ yX9_readOnce.cls ≠ "java/lang/invoke/VarHandle" ∧ (parseMethodDescriptor yX9_readOnce.desc).map (fun d => d.parameters.length) = some 2 := by decide +kernel
theorem hdV_X9_readOperand : yX9_readOperand.cls = RX9 ∧ yX9_readOperand.cls ≠ "java/lang/invoke/MethodHandle" ∧ yX9_readOperand.cls ≠ "java/lang/invoke/VarHandle" ∧ (parseMethodDescriptor yX9_readOperand.desc).map (fun d => d.parameters.length) = some 0 := by decide +kernel
theorem hdV_X9_readPlaced : yX9_readPlaced.cls = RX9 ∧ yX9_readPlaced.cls ≠ "java/lang/invoke/MethodHandle" ∧ yX9_readPlaced.cls ≠ "java/lang/invoke/VarHandle" ∧ (parseMethodDescriptor yX9_readPlaced.desc).map (fun d => d.parameters.length) = some 2 := by decide +kernel
theorem hdV_X9_readPond : yX9_readPond.cls = RX9 ∧ yX9_readPond.cls ≠ "java/lang/invoke/MethodHandle" ∧ yX9_readPond.cls ≠ "java/lang/invoke/VarHandle" ∧ (parseMethodDescriptor yX9_readPond.desc).map (fun d => d.parameters.length) = some 0 := by decide +kernel
theorem hdV_X9_readReed : yX9_readReed.cls = RX9 ∧ yX9_readReed.cls ≠ "java/lang/invoke/MethodHandle" ∧ yX9_readReed.cls ≠ "java/lang/invoke/VarHandle" ∧ (parseMethodDescriptor yX9_readReed.desc).map (fun d => d.parameters.length) = some 0 := by decide +kernel
theorem hdV_X9_readRises : yX9_readRises.cls = RX9 ∧ yX9_readRises.cls ≠ "java/lang/invoke/MethodHandle" ∧ yX9_readRises.cls ≠ "java/lang/invoke/VarHandle" ∧ (parseMethodDescriptor yX9_readRises.desc).map (fun d => d.parameters.length) = some 1 := by decide +kernel
theorem hdV_X9_readSent : yX9_readSent.cls = RX9 ∧ yX9_readSent.cls ≠ "java/lang/invoke/MethodHandle" ∧ yX9_readSent.cls ≠ "java/lang/invoke/VarHandle" ∧ (parseMethodDescriptor yX9_readSent.desc).map (fun d => d.parameters.length) = some 0 := by decide +kernel
theorem hdV_X9_readShoreCell : yX9_readShoreCell.cls = RX9 ∧ yX9_readShoreCell.cls ≠ "java/lang/invoke/MethodHandle" ∧ yX9_readShoreCell.cls ≠ "java/lang/invoke/VarHandle" ∧ (parseMethodDescriptor yX9_readShoreCell.desc).map (fun d => d.parameters.length) = some 1 := by decide +kernel
theorem hdV_X9_readThick : yX9_readThick.cls = RX9 ∧ yX9_readThick.cls ≠ "java/lang/invoke/MethodHandle" ∧ yX9_readThick.cls ≠ "java/lang/invoke/VarHandle" ∧ (parseMethodDescriptor yX9_readThick.desc).map (fun d => d.parameters.length) = some 0 := by decide +kernel
theorem hdV_X9_refuse : yX9_refuse.cls = RX9 ∧ yX9_refuse.cls ≠ "java/lang/invoke/MethodHandle" ∧ yX9_refuse.cls ≠ "java/lang/invoke/VarHandle" ∧ (parseMethodDescriptor yX9_refuse.desc).map (fun d => d.parameters.length) = some 1 := by decide +kernel
theorem hdV_X9_release : yX9_release.cls = RX9 ∧ yX9_release.cls ≠ "java/lang/invoke/MethodHandle" ∧ yX9_release.cls ≠ "java/lang/invoke/VarHandle" ∧ (parseMethodDescriptor yX9_release.desc).map (fun d => d.parameters.length) = some 1 := by decide +kernel
theorem hdV_X9_topRank : yX9_topRank.cls = RX9 ∧ yX9_topRank.cls ≠ "java/lang/invoke/MethodHandle" ∧ yX9_topRank.cls ≠ "java/lang/invoke/VarHandle" ∧ (parseMethodDescriptor yX9_topRank.desc).map (fun d => d.parameters.length) = some 0 := by decide +kernel
theorem hdV_X9_wordCode : yX9_wordCode.cls = RX9 ∧ yX9_wordCode.cls ≠ "java/lang/invoke/MethodHandle" ∧ yX9_wordCode.cls ≠ "java/lang/invoke/VarHandle" ∧ (parseMethodDescriptor yX9_wordCode.desc).map (fun d => d.parameters.length) = some 0 := by decide +kernel
