/-! the words of the classes' fields -/
def zlayW_0 : List Nat := [676, 678, 680, 682, 684, 686, 688]
set_option maxRecDepth 100000 in
theorem zlayC_0 : (u_ws RX0 TX0 7).map some = zlayW_0.map (fun i => lw_tbl[i]?) := by decide +kernel
def zlayW_1 : List Nat := [449, 451, 453, 455, 457, 459, 461, 463, 465, 467]
set_option maxRecDepth 100000 in
theorem zlayC_1 : (u_ws RX1 TX1 10).map some = zlayW_1.map (fun i => lw_tbl[i]?) := by decide +kernel
def zlayW_2 : List Nat := [371, 373, 375, 377, 379, 381, 383]
set_option maxRecDepth 100000 in
theorem zlayC_2 : (u_ws RX2 TX2 7).map some = zlayW_2.map (fun i => lw_tbl[i]?) := by decide +kernel
def zlayW_3 : List Nat := [552, 554, 556, 558, 560, 562, 564, 566, 568, 570, 572, 574, 576, 578, 580, 582, 584, 586]
set_option maxRecDepth 100000 in
theorem zlayC_3 : (u_ws RX3 TX3 18).map some = zlayW_3.map (fun i => lw_tbl[i]?) := by decide +kernel
def zlayW_4 : List Nat := [287, 289, 291, 293, 295, 297, 299, 301, 303, 305, 307, 309, 311]
set_option maxRecDepth 100000 in
theorem zlayC_4 : (u_ws RX4 TX4 13).map some = zlayW_4.map (fun i => lw_tbl[i]?) := by decide +kernel
def zlayW_5 : List Nat := [248, 250, 252, 254, 256, 258, 260, 262]
set_option maxRecDepth 100000 in
theorem zlayC_5 : (u_ws RX5 TX5 8).map some = zlayW_5.map (fun i => lw_tbl[i]?) := by decide +kernel
def zlayW_6 : List Nat := [633, 635, 637, 639, 641, 643, 645, 647, 649, 651, 653, 655]
set_option maxRecDepth 100000 in
theorem zlayC_6 : (u_ws RX6 TX6 12).map some = zlayW_6.map (fun i => lw_tbl[i]?) := by decide +kernel
def zlayW_7 : List Nat := [338, 340, 342, 344, 346]
set_option maxRecDepth 100000 in
theorem zlayC_7 : (u_ws RX7 TX7 5).map some = zlayW_7.map (fun i => lw_tbl[i]?) := by decide +kernel
def zlayW_8 : List Nat := [501, 503, 505, 507, 509, 511, 513, 515, 517, 519, 521, 523, 525]
set_option maxRecDepth 100000 in
theorem zlayC_8 : (u_ws RX8 TX8 13).map some = zlayW_8.map (fun i => lw_tbl[i]?) := by decide +kernel
def zlayW_9 : List Nat := [724, 726, 728, 730, 732, 734, 736, 738, 740, 742, 744]
set_option maxRecDepth 100000 in
theorem zlayC_9 : (u_ws RX9 TX9 11).map some = zlayW_9.map (fun i => lw_tbl[i]?) := by decide +kernel
def zlayW_10 : List Nat := [409, 411, 413, 415, 417, 419, 421]
set_option maxRecDepth 100000 in
theorem zlayC_10 : (u_ws RX10 TX10 7).map some = zlayW_10.map (fun i => lw_tbl[i]?) := by decide +kernel
def zlayW_11 : List Nat := [755, 757, 759, 761, 763, 765, 767, 769]
set_option maxRecDepth 100000 in
theorem zlayC_11 : (u_ws RX11 TX11 8).map some = zlayW_11.map (fun i => lw_tbl[i]?) := by decide +kernel
def zlayW_12 : List Nat := [1492, 1494, 1496, 1498, 1500, 1502, 1504, 1506, 1508, 1510, 1512, 1514, 1516, 1518, 1520, 1522, 1524, 1526, 1528, 1530, 1532, 1534, 1536, 1538, 1540, 1542, 1544, 1546, 1548, 1550, 1552, 1554, 1556, 1558, 1560, 1562, 1564, 1566, 1568, 1570, 1572, 1574]
set_option maxRecDepth 100000 in
theorem zlayC_12 : (u_ws RX12 TX12 42).map some = zlayW_12.map (fun i => lw_tbl[i]?) := by decide +kernel
def zlayW_13 : List Nat := [1651, 1653, 1655, 1657, 1659, 1661, 1663, 1665, 1667, 1669, 1671, 1673, 1675, 1677, 1679, 1681, 1683, 1685, 1687, 1689, 1691, 1693, 1695, 1697, 1699, 1701, 1703, 1705, 1707, 1709, 1711, 1713, 1715, 1717, 1719, 1721, 1723, 1725, 1727, 1729, 1731, 1733, 1735, 1737, 1739, 1741, 1743, 1745, 1747, 1749, 1751, 1753, 1755, 1757, 1759, 1761, 1763, 1765, 1767, 1769, 1771, 1773, 1775, 1777, 1779, 1781, 1783, 1785, 1787, 1789, 1791, 1793, 1795, 1797]
set_option maxRecDepth 100000 in
theorem zlayC_13 : (u_ws RX13 TX13 74).map some = zlayW_13.map (fun i => lw_tbl[i]?) := by decide +kernel
theorem zlay_of {ws : List Cond} {is : List Nat} (h : ws.map some = is.map (fun i => lw_tbl[i]?)) (hg : ws.all goodWord = true) : ∀ w ∈ ws, w ∈ zWS := by
  intro w hw
  have h1 : some w ∈ ws.map some := List.mem_map.mpr ⟨w, hw, rfl⟩
  rw [h] at h1
  obtain ⟨i, -, hi⟩ := List.mem_map.mp h1
  exact zin i hi (List.all_eq_true.mp hg w hw)
/-- class ci of the tables -/
theorem zcl {ci : Nat} (h : ci < 14) : vwCl[ci]? = some (Rn ci, zTf ci, zNf ci) ∧ (∀ w ∈ u_ws (Rn ci) (zTf ci) (zNf ci), w ∈ zWS) ∧ (∀ k, k < zNf ci → parseFieldDescriptor (zTf ci k).2.2.1 = some (zty ci k)) ∧ (∀ a, a < zNf ci → ∀ b, b < zNf ci → a ≠ b → (zTf ci a).2.1 ≠ (zTf ci b).2.1) := by
  match ci, h with
  | 0, _ => exact ⟨rfl, zlay_of zlayC_0 (by decide +kernel), tyX0_ok, nmX0⟩
  | 1, _ => exact ⟨rfl, zlay_of zlayC_1 (by decide +kernel), tyX1_ok, nmX1⟩
  | 2, _ => exact ⟨rfl, zlay_of zlayC_2 (by decide +kernel), tyX2_ok, nmX2⟩
  | 3, _ => exact ⟨rfl, zlay_of zlayC_3 (by decide +kernel), tyX3_ok, nmX3⟩
  | 4, _ => exact ⟨rfl, zlay_of zlayC_4 (by decide +kernel), tyX4_ok, nmX4⟩
  | 5, _ => exact ⟨rfl, zlay_of zlayC_5 (by decide +kernel), tyX5_ok, nmX5⟩
  | 6, _ => exact ⟨rfl, zlay_of zlayC_6 (by decide +kernel), tyX6_ok, nmX6⟩
  | 7, _ => exact ⟨rfl, zlay_of zlayC_7 (by decide +kernel), tyX7_ok, nmX7⟩
  | 8, _ => exact ⟨rfl, zlay_of zlayC_8 (by decide +kernel), tyX8_ok, nmX8⟩
  | 9, _ => exact ⟨rfl, zlay_of zlayC_9 (by decide +kernel), tyX9_ok, nmX9⟩
  | 10, _ => exact ⟨rfl, zlay_of zlayC_10 (by decide +kernel), tyX10_ok, nmX10⟩
  | 11, _ => exact ⟨rfl, zlay_of zlayC_11 (by decide +kernel), tyX11_ok, nmX11⟩
  | 12, _ => exact ⟨rfl, zlay_of zlayC_12 (by decide +kernel), tyX12_ok, nmX12⟩
  | 13, _ => exact ⟨rfl, zlay_of zlayC_13 (by decide +kernel), tyX13_ok, nmX13⟩
  | n + 14, h => omega
theorem zii {ci : Nat} (h : ci < 14) : Cond.instantiable (Rn ci) (zNf ci) ∈ zWS ∧ Cond.initialized (Rn ci) ∈ zWS := by
  have h1 := List.all_eq_true.mp ziiC_all ci (List.mem_range.mpr h)
  unfold ziiC at h1
  simp only [Bool.and_eq_true, decide_eq_true_eq, Option.bind_eq_some_iff] at h1
  obtain ⟨⟨i, -, hi⟩, ⟨j, -, hj⟩⟩ := h1
  exact ⟨zin i hi rfl, zin j hj rfl⟩
/-- a field that a pool number means: is the link one between nest mates, its class, its place -/
def zfl (cn idx : Nat) : Option (Bool × Nat × Nat) := match (zfldT cn).find? (fun q => q.1 == idx) with
  | some q => some (false, q.2.1, q.2.2.1)
  | none => match (zfnT cn).find? (fun q => q.1 == idx) with
    | some q => some (true, q.2.1, q.2.2.1)
    | none => none
theorem zfl_ok {cn idx ci k : Nat} {b : Bool} (h : zfl cn idx = some (b, ci, k)) : ci < 14 ∧ k < zNf ci ∧ (zTf ci k).1 = Rn ci ∧ ((b = false ∧ Cond.fieldLink (Rn cn) idx (Rn ci) (zTf ci k).2.1 (zTf ci k).2.2.1 ∈ zWS) ∨ (b = true ∧ cn = 13 ∧ Cond.fieldLinkNest (Rn 13) idx (Rn ci) (zTf ci k).2.1 (zTf ci k).2.2.1 (Rn 13) ∈ lw_tbl)) := by
  unfold zfl at h
  split at h
  · next q hq =>
    cases h
    have h1 := List.all_eq_true.mp (zfldC_all cn) q (List.mem_of_find?_eq_some hq)
    have h2 : q.1 = idx := by simpa using List.find?_some hq
    unfold zfldC at h1
    simp only [Bool.and_eq_true, decide_eq_true_eq] at h1
    obtain ⟨⟨⟨a, b⟩, c⟩, d⟩ := h1
    rw [h2] at a
    exact ⟨b, c, d, Or.inl ⟨rfl, zin _ a rfl⟩⟩
  · split at h
    · next q hq =>
      cases h
      have h2 : q.1 = idx := by simpa using List.find?_some hq
      have hm := List.mem_of_find?_eq_some hq
      unfold zfnT at hm
      split at hm
      · have h1 := List.all_eq_true.mp zfnC_13 q hm
        unfold zfnC at h1
        simp only [Bool.and_eq_true, decide_eq_true_eq] at h1
        obtain ⟨⟨⟨a, b⟩, c⟩, d⟩ := h1
        rw [h2] at a
        exact ⟨b, c, d, Or.inr ⟨rfl, rfl, List.mem_of_getElem? a⟩⟩
      · cases hm
    · cases h
