/-! SOUNDNESS, C: the classes (printed by wip/whole/gen.py); reads and writes -/
set_option maxRecDepth 100000 in
theorem ulw_0 : ([327, 329, 331, 333, 335, 337, 339, 341, 343, 345, 347, 349, 351] : List Nat).map (fun p => tables_1[p]?) = (u_ws RX0 TX0 13).map some := rfl
set_option maxRecDepth 100000 in
theorem ulw_1 : ([185, 187, 189, 191, 193] : List Nat).map (fun p => tables_1[p]?) = (u_ws RX1 TX1 5).map some := rfl
set_option maxRecDepth 100000 in
theorem ulw_2 : ([281, 283, 285, 287, 289, 291, 293] : List Nat).map (fun p => tables_1[p]?) = (u_ws RX2 TX2 7).map some := rfl
set_option maxRecDepth 100000 in
theorem ulw_3 : ([241, 243, 245, 247, 249, 251, 253] : List Nat).map (fun p => tables_1[p]?) = (u_ws RX3 TX3 7).map some := rfl
set_option maxRecDepth 100000 in
theorem ulw_4 : ([55, 57, 59, 61, 63, 65, 67, 69, 71, 73, 75, 77, 79] : List Nat).map (fun p => tables_1[p]?) = (u_ws RX4 TX4 13).map some := rfl
set_option maxRecDepth 100000 in
theorem ulw_5 : ([379, 381, 383, 385, 387, 389, 391, 393, 395, 397, 399, 401, 403] : List Nat).map (fun p => tables_1[p]?) = (u_ws RX5 TX5 13).map some := rfl
set_option maxRecDepth 100000 in
theorem ulw_6 : ([422, 424, 426, 428, 430, 432, 434, 436, 438, 440] : List Nat).map (fun p => tables_1[p]?) = (u_ws RX6 TX6 10).map some := rfl
set_option maxRecDepth 100000 in
theorem ulw_7 : ([150, 152, 154, 156, 158, 160, 162, 164, 166] : List Nat).map (fun p => tables_1[p]?) = (u_ws RX7 TX7 9).map some := rfl
set_option maxRecDepth 100000 in
theorem ulw_8 : ([103, 105, 107, 109, 111, 113, 115, 117, 119, 121, 123, 125] : List Nat).map (fun p => tables_1[p]?) = (u_ws RX8 TX8 12).map some := rfl
set_option maxRecDepth 100000 in
theorem ulw_9 : ([457, 459, 461, 463, 465, 467, 469] : List Nat).map (fun p => tables_1[p]?) = (u_ws RX9 TX9 7).map some := rfl
set_option maxRecDepth 100000 in
theorem ulw_10 : ([210, 212, 214, 216, 218, 220] : List Nat).map (fun p => tables_1[p]?) = (u_ws RX10 TX10 6).map some := rfl
set_option maxRecDepth 100000 in
theorem ulw_11 : ([487, 489, 491, 493, 495, 497, 499, 501, 503, 505, 507, 509, 511, 513, 515] : List Nat).map (fun p => tables_1[p]?) = (u_ws RX11 TX11 15).map some := rfl
set_option maxRecDepth 100000 in
theorem ulw_12 : ([1593, 1595, 1597, 1599, 1601, 1603, 1605, 1607, 1609, 1611, 1613, 1615, 1617, 1619, 1621, 1623, 1625, 1627, 1629, 1631, 1633, 1635, 1637, 1639, 1641, 1643, 1645, 1647, 1649, 1651, 1653, 1655, 1657, 1659, 1661, 1663, 1665, 1667, 1669, 1671, 1673, 1675, 1677, 1679, 1681, 1683, 1685, 1687, 1689, 1691, 1693, 1695, 1697, 1699, 1701, 1703, 1705, 1707, 1709, 1711, 1713, 1715, 1717, 1719, 1721, 1723, 1725, 1727, 1729, 1731, 1733, 1735, 1737, 1739, 1741, 1743, 1745, 1747, 1749, 1751, 1753, 1755, 1757, 1759, 1761, 1763, 1765, 1767, 1769, 1771, 1773, 1775, 1777] : List Nat).map (fun p => tables_1[p]?) = (u_ws RX12 TX12 93).map some := rfl
theorem ulw_in {ps : List Nat} {ws : List Cond} (h : ps.map (fun p => tables_1[p]?) = ws.map some) : ∀ w ∈ ws, w ∈ lw_tbl := by
  intro w hw
  have h1 : some w ∈ ws.map some := List.mem_map_of_mem hw
  rw [← h] at h1
  obtain ⟨p, -, hp⟩ := List.mem_map.mp h1
  exact List.mem_append_right _ (List.mem_of_getElem? hp)
theorem ulw_all {ci : Nat} (h : ci < 13) : ∀ w ∈ u_ws (cN ci).1 (cN ci).2.1 (cN ci).2.2, w ∈ lw_tbl := by
  match ci, h with
  | 0, _ => exact ulw_in ulw_0
  | 1, _ => exact ulw_in ulw_1
  | 2, _ => exact ulw_in ulw_2
  | 3, _ => exact ulw_in ulw_3
  | 4, _ => exact ulw_in ulw_4
  | 5, _ => exact ulw_in ulw_5
  | 6, _ => exact ulw_in ulw_6
  | 7, _ => exact ulw_in ulw_7
  | 8, _ => exact ulw_in ulw_8
  | 9, _ => exact ulw_in ulw_9
  | 10, _ => exact ulw_in ulw_10
  | 11, _ => exact ulw_in ulw_11
  | 12, _ => exact ulw_in ulw_12
theorem cl_nm {ci : Nat} (h : ci < 13) : ∀ a, a < (cN ci).2.2 → ∀ b, b < (cN ci).2.2 → a ≠ b → ((cN ci).2.1 a).2.1 ≠ ((cN ci).2.1 b).2.1 := by
  match ci, h with
  | 0, _ => exact nmX0
  | 1, _ => exact nmX1
  | 2, _ => exact nmX2
  | 3, _ => exact nmX3
  | 4, _ => exact nmX4
  | 5, _ => exact nmX5
  | 6, _ => exact nmX6
  | 7, _ => exact nmX7
  | 8, _ => exact nmX8
  | 9, _ => exact nmX9
  | 10, _ => exact nmX10
  | 11, _ => exact nmX11
  | 12, _ => exact nmX12
theorem cl_ty {ci : Nat} (h : ci < 13) : ∃ ty : Nat → FieldType, ∀ k, k < (cN ci).2.2 → parseFieldDescriptor ((cN ci).2.1 k).2.2.1 = some (ty k) := by
  match ci, h with
  | 0, _ => exact ⟨tyX0, tyX0_ok⟩
  | 1, _ => exact ⟨tyX1, tyX1_ok⟩
  | 2, _ => exact ⟨tyX2, tyX2_ok⟩
  | 3, _ => exact ⟨tyX3, tyX3_ok⟩
  | 4, _ => exact ⟨tyX4, tyX4_ok⟩
  | 5, _ => exact ⟨tyX5, tyX5_ok⟩
  | 6, _ => exact ⟨tyX6, tyX6_ok⟩
  | 7, _ => exact ⟨tyX7, tyX7_ok⟩
  | 8, _ => exact ⟨tyX8, tyX8_ok⟩
  | 9, _ => exact ⟨tyX9, tyX9_ok⟩
  | 10, _ => exact ⟨tyX10, tyX10_ok⟩
  | 11, _ => exact ⟨tyX11, tyX11_ok⟩
  | 12, _ => exact ⟨tyX12, tyX12_ok⟩
theorem gw_cls {ci : Nat} (h : ci < 13) : ∀ w ∈ u_ws (cN ci).1 (cN ci).2.1 (cN ci).2.2, w ∈ gw := by
  intro w hw
  refine gw_of (ulw_all h w hw) ?_
  obtain ⟨k, -, rfl⟩ := List.mem_map.mp hw
  unfold u_lay
  split <;> rfl
/-- kinds and types -/
def kdOK (ci k : Nat) : Bool := match fkT ci k, parseFieldDescriptor ((cN ci).2.1 k).2.2.1 with
  | 0, some .int => true
  | 1, some .long => true
  | 2, some (.object _) => true
  | 2, some (.array _) => true
  | 3, some .boolean => true
  | _, _ => false
theorem kd_all : (List.range 13).all (fun ci => (List.range (nfT ci)).all (fun k => kdOK ci k)) = true := by decide +kernel
theorem kd_at {ci k : Nat} (h : ci < 13) (hk : k < nfT ci) : kdOK ci k = true := List.all_eq_true.mp (List.all_eq_true.mp kd_all ci (List.mem_range.mpr h)) k (List.mem_range.mpr hk)
theorem kd_ty {ci k : Nat} (h : kdOK ci k = true) : ∃ ty, parseFieldDescriptor ((cN ci).2.1 k).2.2.1 = some ty ∧ (fkT ci k = 0 ∧ ty = .int ∨ fkT ci k = 1 ∧ ty = .long ∨ fkT ci k = 3 ∧ ty = .boolean ∨ fkT ci k = 2 ∧ ((∃ x, ty = .object x) ∨ ∃ x, ty = .array x)) := by
  unfold kdOK at h
  split at h
  · rename_i e1 e2; exact ⟨_, e2, Or.inl ⟨e1, rfl⟩⟩
  · rename_i e1 e2; exact ⟨_, e2, Or.inr (Or.inl ⟨e1, rfl⟩)⟩
  · rename_i e1 e2; exact ⟨_, e2, Or.inr (Or.inr (Or.inr ⟨e1, Or.inl ⟨_, rfl⟩⟩))⟩
  · rename_i e1 e2; exact ⟨_, e2, Or.inr (Or.inr (Or.inr ⟨e1, Or.inr ⟨_, rfl⟩⟩))⟩
  · rename_i e1 e2; exact ⟨_, e2, Or.inr (Or.inr (Or.inl ⟨e1, rfl⟩))⟩
  · cases h
