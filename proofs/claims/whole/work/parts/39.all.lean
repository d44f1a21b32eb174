/-! What is known of all kinds of cells and of the words. -/
theorem gWs_of {l : List Cond} {ps : List Nat} (h : gAll2 (fun w p => gAt p w) l ps = true) : ∀ w ∈ l, w ∈ gTs := fun w hw => by
  obtain ⟨p, hp⟩ := gAll2_mem _ _ h w hw
  exact gAt_in hp
def gTyB (T : u_T) (k : Nat) : FieldType := (parseFieldDescriptor (T k).2.2.1).getD .int
def gDfB (fs : List (Option (Option Nat))) (T : u_T) (N : Nat) : Bool := (List.range N).all fun j => match fs[j]?, parseFieldDescriptor (T j).2.2.1 with
  | some none, some t => decide (defaultValue t = .int 0)
  | some (some none), some t => decide (defaultValue t = .null)
  | _, _ => false
theorem gDfB_of {fs : List (Option (Option Nat))} {T : u_T} {N : Nat} (h : gDfB fs T N = true) : ∀ j, j < N → ∀ t, parseFieldDescriptor (T j).2.2.1 = some t → ∃ z, fs[j]? = some z ∧ (z = none ∨ z = some none) ∧ defaultValue t = gFd gZ0 0 0 z := by
  intro j hj t ht
  have h1 := List.all_eq_true.mp h j (List.mem_range.mpr hj)
  simp only [ht] at h1
  split at h1
  · rename_i hz hq; cases hq; exact ⟨none, hz, Or.inl rfl, of_decide_eq_true h1⟩
  · rename_i hz hq; cases hq; exact ⟨some none, hz, Or.inr rfl, of_decide_eq_true h1⟩
  · cases h1
theorem gKw_0 : gAll2 (fun w p => gAt p w) (u_ws "GateField" (gFt gT_0) 12) [818, 820, 822, 824, 826, 828, 830, 832, 834, 836, 838, 840] = true := by decide +kernel
theorem gKt_0 : ∀ k, k < 12 → parseFieldDescriptor ((gFt gT_0) k).2.2.1 = some (gTyB (gFt gT_0) k) := by decide +kernel
theorem gKn_0 : (List.range 12).all (fun a => (List.range a).all fun b => ((gFt gT_0) a).2.1 != ((gFt gT_0) b).2.1) = true := by decide +kernel
theorem gKi_0 : (gAt 169 (Cond.instantiable "GateField" 12) && gAt 147 (Cond.initialized "GateField")) = true := by decide +kernel
theorem gKd_0 : gDfB (gDf.getD 0 []) (gFt gT_0) 12 = true := by decide +kernel
theorem gKw_1 : gAll2 (fun w p => gAt p w) (u_ws "GateField$Circuit" (gFt gT_1) 16) [509, 511, 513, 515, 517, 519, 521, 523, 525, 527, 529, 531, 533, 535, 537, 539] = true := by decide +kernel
theorem gKt_1 : ∀ k, k < 16 → parseFieldDescriptor ((gFt gT_1) k).2.2.1 = some (gTyB (gFt gT_1) k) := by decide +kernel
theorem gKn_1 : (List.range 16).all (fun a => (List.range a).all fun b => ((gFt gT_1) a).2.1 != ((gFt gT_1) b).2.1) = true := by decide +kernel
theorem gKi_1 : (gAt 470 (Cond.instantiable "GateField$Circuit" 16) && gAt 154 (Cond.initialized "GateField$Circuit")) = true := by decide +kernel
theorem gKd_1 : gDfB (gDf.getD 1 []) (gFt gT_1) 16 = true := by decide +kernel
theorem gKw_2 : gAll2 (fun w p => gAt p w) (u_ws "GateField$Field" (gFt gT_2) 17) [771, 773, 775, 777, 779, 781, 783, 785, 787, 789, 791, 793, 795, 797, 799, 801, 803] = true := by decide +kernel
theorem gKt_2 : ∀ k, k < 17 → parseFieldDescriptor ((gFt gT_2) k).2.2.1 = some (gTyB (gFt gT_2) k) := by decide +kernel
theorem gKn_2 : (List.range 17).all (fun a => (List.range a).all fun b => ((gFt gT_2) a).2.1 != ((gFt gT_2) b).2.1) = true := by decide +kernel
theorem gKi_2 : (gAt 746 (Cond.instantiable "GateField$Field" 17) && gAt 160 (Cond.initialized "GateField$Field")) = true := by decide +kernel
theorem gKd_2 : gDfB (gDf.getD 2 []) (gFt gT_2) 17 = true := by decide +kernel
theorem gKw_3 : gAll2 (fun w p => gAt p w) (u_ws "GateField$Front" (gFt gT_3) 3) [687, 689, 691] = true := by decide +kernel
theorem gKt_3 : ∀ k, k < 3 → parseFieldDescriptor ((gFt gT_3) k).2.2.1 = some (gTyB (gFt gT_3) k) := by decide +kernel
theorem gKn_3 : (List.range 3).all (fun a => (List.range a).all fun b => ((gFt gT_3) a).2.1 != ((gFt gT_3) b).2.1) = true := by decide +kernel
theorem gKi_3 : (gAt 678 (Cond.instantiable "GateField$Front" 3) && gAt 159 (Cond.initialized "GateField$Front")) = true := by decide +kernel
theorem gKd_3 : gDfB (gDf.getD 3 []) (gFt gT_3) 3 = true := by decide +kernel
theorem gKw_4 : gAll2 (fun w p => gAt p w) (u_ws "GateField$Gates" (gFt gT_4) 9) [380, 382, 384, 386, 388, 390, 392, 394, 396] = true := by decide +kernel
theorem gKt_4 : ∀ k, k < 9 → parseFieldDescriptor ((gFt gT_4) k).2.2.1 = some (gTyB (gFt gT_4) k) := by decide +kernel
theorem gKn_4 : (List.range 9).all (fun a => (List.range a).all fun b => ((gFt gT_4) a).2.1 != ((gFt gT_4) b).2.1) = true := by decide +kernel
theorem gKi_4 : (gAt 358 (Cond.instantiable "GateField$Gates" 9) && gAt 152 (Cond.initialized "GateField$Gates")) = true := by decide +kernel
theorem gKd_4 : gDfB (gDf.getD 4 []) (gFt gT_4) 9 = true := by decide +kernel
theorem gKw_5 : gAll2 (fun w p => gAt p w) (u_ws "GateField$Grid" (gFt gT_5) 20) [284, 286, 288, 290, 292, 294, 296, 298, 300, 302, 304, 306, 308, 310, 312, 314, 316, 318, 320, 322] = true := by decide +kernel
theorem gKt_5 : ∀ k, k < 20 → parseFieldDescriptor ((gFt gT_5) k).2.2.1 = some (gTyB (gFt gT_5) k) := by decide +kernel
theorem gKn_5 : (List.range 20).all (fun a => (List.range a).all fun b => ((gFt gT_5) a).2.1 != ((gFt gT_5) b).2.1) = true := by decide +kernel
theorem gKi_5 : (gAt 177 (Cond.instantiable "GateField$Grid" 20) && gAt 148 (Cond.initialized "GateField$Grid")) = true := by decide +kernel
theorem gKd_5 : gDfB (gDf.getD 5 []) (gFt gT_5) 20 = true := by decide +kernel
theorem gKw_6 : gAll2 (fun w p => gAt p w) (u_ws "GateField$Mapper" (gFt gT_6) 3) [555, 557, 559] = true := by decide +kernel
theorem gKt_6 : ∀ k, k < 3 → parseFieldDescriptor ((gFt gT_6) k).2.2.1 = some (gTyB (gFt gT_6) k) := by decide +kernel
theorem gKn_6 : (List.range 3).all (fun a => (List.range a).all fun b => ((gFt gT_6) a).2.1 != ((gFt gT_6) b).2.1) = true := by decide +kernel
theorem gKi_6 : (gAt 543 (Cond.instantiable "GateField$Mapper" 3) && gAt 155 (Cond.initialized "GateField$Mapper")) = true := by decide +kernel
theorem gKd_6 : gDfB (gDf.getD 6 []) (gFt gT_6) 3 = true := by decide +kernel
theorem gKw_7 : gAll2 (fun w p => gAt p w) (u_ws "GateField$Packing" (gFt gT_7) 18) [606, 608, 610, 612, 614, 616, 618, 620, 622, 624, 626, 628, 630, 632, 634, 636, 638, 640] = true := by decide +kernel
theorem gKt_7 : ∀ k, k < 18 → parseFieldDescriptor ((gFt gT_7) k).2.2.1 = some (gTyB (gFt gT_7) k) := by decide +kernel
theorem gKn_7 : (List.range 18).all (fun a => (List.range a).all fun b => ((gFt gT_7) a).2.1 != ((gFt gT_7) b).2.1) = true := by decide +kernel
theorem gKi_7 : (gAt 563 (Cond.instantiable "GateField$Packing" 18) && gAt 156 (Cond.initialized "GateField$Packing")) = true := by decide +kernel
theorem gKd_7 : gDfB (gDf.getD 7 []) (gFt gT_7) 18 = true := by decide +kernel
theorem gKw_8 : gAll2 (fun w p => gAt p w) (u_ws "GateField$Placing" (gFt gT_8) 5) [660, 662, 664, 666, 668] = true := by decide +kernel
theorem gKt_8 : ∀ k, k < 5 → parseFieldDescriptor ((gFt gT_8) k).2.2.1 = some (gTyB (gFt gT_8) k) := by decide +kernel
theorem gKn_8 : (List.range 5).all (fun a => (List.range a).all fun b => ((gFt gT_8) a).2.1 != ((gFt gT_8) b).2.1) = true := by decide +kernel
theorem gKi_8 : (gAt 644 (Cond.instantiable "GateField$Placing" 5) && gAt 157 (Cond.initialized "GateField$Placing")) = true := by decide +kernel
theorem gKd_8 : gDfB (gDf.getD 8 []) (gFt gT_8) 5 = true := by decide +kernel
theorem gKw_9 : gAll2 (fun w p => gAt p w) (u_ws "GateField$Reader" (gFt gT_9) 18) [432, 434, 436, 438, 440, 442, 444, 446, 448, 450, 452, 454, 456, 458, 460, 462, 464, 466] = true := by decide +kernel
theorem gKt_9 : ∀ k, k < 18 → parseFieldDescriptor ((gFt gT_9) k).2.2.1 = some (gTyB (gFt gT_9) k) := by decide +kernel
theorem gKn_9 : (List.range 18).all (fun a => (List.range a).all fun b => ((gFt gT_9) a).2.1 != ((gFt gT_9) b).2.1) = true := by decide +kernel
theorem gKi_9 : (gAt 400 (Cond.instantiable "GateField$Reader" 18) && gAt 153 (Cond.initialized "GateField$Reader")) = true := by decide +kernel
theorem gKd_9 : gDfB (gDf.getD 9 []) (gFt gT_9) 18 = true := by decide +kernel
theorem gKw_10 : gAll2 (fun w p => gAt p w) (u_ws "GateField$Router" (gFt gT_10) 16) [712, 714, 716, 718, 720, 722, 724, 726, 728, 730, 732, 734, 736, 738, 740, 742] = true := by decide +kernel
theorem gKt_10 : ∀ k, k < 16 → parseFieldDescriptor ((gFt gT_10) k).2.2.1 = some (gTyB (gFt gT_10) k) := by decide +kernel
theorem gKn_10 : (List.range 16).all (fun a => (List.range a).all fun b => ((gFt gT_10) a).2.1 != ((gFt gT_10) b).2.1) = true := by decide +kernel
theorem gKi_10 : (gAt 672 (Cond.instantiable "GateField$Router" 16) && gAt 158 (Cond.initialized "GateField$Router")) = true := by decide +kernel
theorem gKd_10 : gDfB (gDf.getD 10 []) (gFt gT_10) 16 = true := by decide +kernel
theorem gKw_11 : gAll2 (fun w p => gAt p w) (u_ws "GateField$Text" (gFt gT_11) 7) [341, 343, 345, 347, 349, 351, 353] = true := by decide +kernel
theorem gKt_11 : ∀ k, k < 7 → parseFieldDescriptor ((gFt gT_11) k).2.2.1 = some (gTyB (gFt gT_11) k) := by decide +kernel
theorem gKn_11 : (List.range 7).all (fun a => (List.range a).all fun b => ((gFt gT_11) a).2.1 != ((gFt gT_11) b).2.1) = true := by decide +kernel
theorem gKi_11 : (gAt 327 (Cond.instantiable "GateField$Text" 7) && gAt 151 (Cond.initialized "GateField$Text")) = true := by decide +kernel
theorem gKd_11 : gDfB (gDf.getD 11 []) (gFt gT_11) 7 = true := by decide +kernel
theorem gKw_12 : gAll2 (fun w p => gAt p w) (u_ws "GateFieldModel" (gFt gT_12) 107) [1692, 1694, 1696, 1698, 1700, 1702, 1704, 1706, 1708, 1710, 1712, 1714, 1716, 1718, 1720, 1722, 1724, 1726, 1728, 1730, 1732, 1734, 1736, 1738, 1740, 1742, 1744, 1746, 1748, 1750, 1752, 1754, 1756, 1758, 1760, 1762, 1764, 1766, 1768, 1770, 1772, 1774, 1776, 1778, 1780, 1782, 1784, 1786, 1788, 1790, 1792, 1794, 1796, 1798, 1800, 1802, 1804, 1806, 1808, 1810, 1812, 1814, 1816, 1818, 1820, 1822, 1824, 1826, 1828, 1830, 1832, 1834, 1836, 1838, 1840, 1842, 1844, 1846, 1848, 1850, 1852, 1854, 1856, 1858, 1860, 1862, 1864, 1866, 1868, 1870, 1872, 1874, 1876, 1878, 1880, 1882, 1884, 1886, 1888, 1890, 1892, 1894, 1896, 1898, 1900, 1902, 1904] = true := by decide +kernel
theorem gKt_12 : ∀ k, k < 107 → parseFieldDescriptor ((gFt gT_12) k).2.2.1 = some (gTyB (gFt gT_12) k) := by decide +kernel
theorem gKn_12 : (List.range 107).all (fun a => (List.range a).all fun b => ((gFt gT_12) a).2.1 != ((gFt gT_12) b).2.1) = true := by decide +kernel
theorem gKi_12 : (gAt 1557 (Cond.instantiable "GateFieldModel" 107) && gAt 161 (Cond.initialized "GateFieldModel")) = true := by decide +kernel
theorem gKd_12 : gDfB (gDf.getD 12 []) (gFt gT_12) 107 = true := by decide +kernel
theorem gNe_of {T : u_T} {N : Nat} (h : (List.range N).all (fun a => (List.range a).all fun b => (T a).2.1 != (T b).2.1) = true) : ∀ a, a < N → ∀ b, b < N → a ≠ b → (T a).2.1 ≠ (T b).2.1 := by
  have key : ∀ a, a < N → ∀ b, b < a → (T a).2.1 ≠ (T b).2.1 := fun a ha b hb => by
    have h1 := List.all_eq_true.mp h a (List.mem_range.mpr ha)
    have h2 := List.all_eq_true.mp h1 b (List.mem_range.mpr hb)
    simpa using h2
  intro a ha b hb hab
  rcases Nat.lt_or_gt_of_ne hab with h | h
  · exact fun e => key b hb a h e.symm
  · exact key a ha b h
theorem gCls_ok : gCls gCl := by
  intro ci qq h
  have hlt : ci < 13 := (List.getElem?_eq_some_iff.mp h).1
  have hc : ci = 0 ∨ ci = 1 ∨ ci = 2 ∨ ci = 3 ∨ ci = 4 ∨ ci = 5 ∨ ci = 6 ∨ ci = 7 ∨ ci = 8 ∨ ci = 9 ∨ ci = 10 ∨ ci = 11 ∨ ci = 12 := by omega
  rcases hc with rfl | rfl | rfl | rfl | rfl | rfl | rfl | rfl | rfl | rfl | rfl | rfl | rfl
  · cases h; exact ⟨gWs_of gKw_0, ⟨gTyB (gFt gT_0), gKt_0⟩, gNe_of gKn_0⟩
  · cases h; exact ⟨gWs_of gKw_1, ⟨gTyB (gFt gT_1), gKt_1⟩, gNe_of gKn_1⟩
  · cases h; exact ⟨gWs_of gKw_2, ⟨gTyB (gFt gT_2), gKt_2⟩, gNe_of gKn_2⟩
  · cases h; exact ⟨gWs_of gKw_3, ⟨gTyB (gFt gT_3), gKt_3⟩, gNe_of gKn_3⟩
  · cases h; exact ⟨gWs_of gKw_4, ⟨gTyB (gFt gT_4), gKt_4⟩, gNe_of gKn_4⟩
  · cases h; exact ⟨gWs_of gKw_5, ⟨gTyB (gFt gT_5), gKt_5⟩, gNe_of gKn_5⟩
  · cases h; exact ⟨gWs_of gKw_6, ⟨gTyB (gFt gT_6), gKt_6⟩, gNe_of gKn_6⟩
  · cases h; exact ⟨gWs_of gKw_7, ⟨gTyB (gFt gT_7), gKt_7⟩, gNe_of gKn_7⟩
  · cases h; exact ⟨gWs_of gKw_8, ⟨gTyB (gFt gT_8), gKt_8⟩, gNe_of gKn_8⟩
  · cases h; exact ⟨gWs_of gKw_9, ⟨gTyB (gFt gT_9), gKt_9⟩, gNe_of gKn_9⟩
  · cases h; exact ⟨gWs_of gKw_10, ⟨gTyB (gFt gT_10), gKt_10⟩, gNe_of gKn_10⟩
  · cases h; exact ⟨gWs_of gKw_11, ⟨gTyB (gFt gT_11), gKt_11⟩, gNe_of gKn_11⟩
  · cases h; exact ⟨gWs_of gKw_12, ⟨gTyB (gFt gT_12), gKt_12⟩, gNe_of gKn_12⟩
theorem gDfs_ok : gDfs gCl gDf := by
  intro ci fs h
  have hlt : ci < 13 := (List.getElem?_eq_some_iff.mp h).1
  have hc : ci = 0 ∨ ci = 1 ∨ ci = 2 ∨ ci = 3 ∨ ci = 4 ∨ ci = 5 ∨ ci = 6 ∨ ci = 7 ∨ ci = 8 ∨ ci = 9 ∨ ci = 10 ∨ ci = 11 ∨ ci = 12 := by omega
  rcases hc with rfl | rfl | rfl | rfl | rfl | rfl | rfl | rfl | rfl | rfl | rfl | rfl | rfl
  · cases h; exact ⟨_, rfl, rfl, gAt_in (Bool.and_eq_true _ _ ▸ gKi_0).1, gAt_in (Bool.and_eq_true _ _ ▸ gKi_0).2, gDfB_of gKd_0⟩
  · cases h; exact ⟨_, rfl, rfl, gAt_in (Bool.and_eq_true _ _ ▸ gKi_1).1, gAt_in (Bool.and_eq_true _ _ ▸ gKi_1).2, gDfB_of gKd_1⟩
  · cases h; exact ⟨_, rfl, rfl, gAt_in (Bool.and_eq_true _ _ ▸ gKi_2).1, gAt_in (Bool.and_eq_true _ _ ▸ gKi_2).2, gDfB_of gKd_2⟩
  · cases h; exact ⟨_, rfl, rfl, gAt_in (Bool.and_eq_true _ _ ▸ gKi_3).1, gAt_in (Bool.and_eq_true _ _ ▸ gKi_3).2, gDfB_of gKd_3⟩
  · cases h; exact ⟨_, rfl, rfl, gAt_in (Bool.and_eq_true _ _ ▸ gKi_4).1, gAt_in (Bool.and_eq_true _ _ ▸ gKi_4).2, gDfB_of gKd_4⟩
  · cases h; exact ⟨_, rfl, rfl, gAt_in (Bool.and_eq_true _ _ ▸ gKi_5).1, gAt_in (Bool.and_eq_true _ _ ▸ gKi_5).2, gDfB_of gKd_5⟩
  · cases h; exact ⟨_, rfl, rfl, gAt_in (Bool.and_eq_true _ _ ▸ gKi_6).1, gAt_in (Bool.and_eq_true _ _ ▸ gKi_6).2, gDfB_of gKd_6⟩
  · cases h; exact ⟨_, rfl, rfl, gAt_in (Bool.and_eq_true _ _ ▸ gKi_7).1, gAt_in (Bool.and_eq_true _ _ ▸ gKi_7).2, gDfB_of gKd_7⟩
  · cases h; exact ⟨_, rfl, rfl, gAt_in (Bool.and_eq_true _ _ ▸ gKi_8).1, gAt_in (Bool.and_eq_true _ _ ▸ gKi_8).2, gDfB_of gKd_8⟩
  · cases h; exact ⟨_, rfl, rfl, gAt_in (Bool.and_eq_true _ _ ▸ gKi_9).1, gAt_in (Bool.and_eq_true _ _ ▸ gKi_9).2, gDfB_of gKd_9⟩
  · cases h; exact ⟨_, rfl, rfl, gAt_in (Bool.and_eq_true _ _ ▸ gKi_10).1, gAt_in (Bool.and_eq_true _ _ ▸ gKi_10).2, gDfB_of gKd_10⟩
  · cases h; exact ⟨_, rfl, rfl, gAt_in (Bool.and_eq_true _ _ ▸ gKi_11).1, gAt_in (Bool.and_eq_true _ _ ▸ gKi_11).2, gDfB_of gKd_11⟩
  · cases h; exact ⟨_, rfl, rfl, gAt_in (Bool.and_eq_true _ _ ▸ gKi_12).1, gAt_in (Bool.and_eq_true _ _ ▸ gKi_12).2, gDfB_of gKd_12⟩
theorem gN_2 : Cond.arrayClass .int ∈ gTs ∧ Cond.arrayClass .byte ∈ gTs ∧ Cond.arrayClass .boolean ∈ gTs ∧ Cond.arrayClass .long ∈ gTs := by decide +kernel
theorem gN_3 : Cond.instanceMethod Lib.objectInit ∈ gTs ∧ Cond.code Lib.objectInit ⟨#[0xb1]⟩ 1 none ∈ gTs := by decide +kernel
theorem gN_4 : Cond.native arraycopyName ∈ gTs ∧ Cond.static arraycopyName ∈ gTs ∧ Cond.initialized "java/lang/System" ∈ gTs := by decide +kernel
theorem gN_5 : Cond.static Lib.Math.max.name ∈ gTs ∧ Cond.initialized "java/lang/Math" ∈ gTs ∧ Cond.code Lib.Math.max.name Lib.Math.max.code 2 (some .int) ∈ gTs ∧ Cond.static Lib.Math.min.name ∈ gTs ∧ Cond.code Lib.Math.min.name Lib.Math.min.code 2 (some .int) ∈ gTs := by decide +kernel
theorem gAll_ok : gAll gCl gDf := ⟨gCls_ok, gDfs_ok, by decide, gN_3, gN_4, gN_2, gN_5⟩
