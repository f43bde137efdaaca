/-! classes: their field words in the table; types; names apart -/
def tbS : List (List Jvm.Cond) := [k2_sels lw_privs, tables_1_1, tables_1_2, tables_1_3, tables_1_4, tables_1_5, tables_1_6, tables_1_7, tables_1_8]
def tbAt (n : Nat) : Option Jvm.Cond := (tbS.getD (n / 1000) [])[n % 1000]?
theorem tbS_mem : ∀ t ∈ tbS, ∀ w ∈ t, w ∈ lw_tbl := by
  intro t ht w hw
  simp only [tbS, List.mem_cons, List.not_mem_nil, or_false] at ht
  simp only [lw_tbl, tables_1, List.mem_append]
  rcases ht with rfl | rfl | rfl | rfl | rfl | rfl | rfl | rfl | rfl
  · exact Or.inl hw
  · exact Or.inr (Or.inl hw)
  · exact Or.inr (Or.inr (Or.inl hw))
  · exact Or.inr (Or.inr (Or.inr (Or.inl hw)))
  · exact Or.inr (Or.inr (Or.inr (Or.inr (Or.inl hw))))
  · exact Or.inr (Or.inr (Or.inr (Or.inr (Or.inr (Or.inl hw)))))
  · exact Or.inr (Or.inr (Or.inr (Or.inr (Or.inr (Or.inr (Or.inl hw))))))
  · exact Or.inr (Or.inr (Or.inr (Or.inr (Or.inr (Or.inr (Or.inr (Or.inl hw)))))))
  · exact Or.inr (Or.inr (Or.inr (Or.inr (Or.inr (Or.inr (Or.inr (Or.inr hw)))))))
theorem tb_at {n : Nat} {w : Jvm.Cond} (h : tbAt n = some w) (hg : goodWord w = true) : w ∈ tbG := by
  refine List.mem_filter.mpr ⟨?_, hg⟩
  unfold tbAt at h
  rw [List.getD_eq_getElem?_getD] at h
  cases ht : tbS[n / 1000]? with
  | none => rw [ht] at h; simp at h
  | some t => rw [ht] at h; exact tbS_mem t (List.mem_of_getElem? ht) w (List.mem_of_getElem? h)
theorem tb_mem {ws : List Jvm.Cond} (ps : List Nat) (h : ws = ps.filterMap tbAt) (hg : ws.all goodWord = true) : ∀ w ∈ ws, w ∈ tbG := by
  intro w hw
  have hw2 := hw
  rw [h] at hw
  obtain ⟨i, -, hi⟩ := List.mem_filterMap.mp hw
  exact tb_at hi (List.all_eq_true.mp hg w hw2)
set_option maxRecDepth 100000 in
theorem inTX0 : ∀ w ∈ wsX00, w ∈ tbG := tb_mem [2049, 2051, 2053, 2055, 2057, 2059, 2061, 2063, 2065, 2067, 2069, 2071, 2073, 2075, 2077, 2079, 2081] (by decide +kernel) (by decide +kernel)
set_option maxRecDepth 100000 in
theorem inTX1 : ∀ w ∈ wsX10, w ∈ tbG := tb_mem [2102, 2104, 2106, 2108] (by decide +kernel) (by decide +kernel)
set_option maxRecDepth 100000 in
theorem inTX2 : ∀ w ∈ wsX20, w ∈ tbG := tb_mem [1160, 1162, 1164, 1166, 1168, 1170, 1172, 1174, 1176] (by decide +kernel) (by decide +kernel)
set_option maxRecDepth 100000 in
theorem inTX3 : ∀ w ∈ wsX30, w ∈ tbG := tb_mem [1133, 1135, 1137] (by decide +kernel) (by decide +kernel)
set_option maxRecDepth 100000 in
theorem inTX4 : ∀ w ∈ wsX40, w ∈ tbG := tb_mem [1097, 1099, 1101, 1103, 1105, 1107, 1109, 1111, 1113, 1115, 1117, 1119] (by decide +kernel) (by decide +kernel)
set_option maxRecDepth 100000 in
theorem inTX5 : ∀ w ∈ wsX50, w ∈ tbG := tb_mem [2122, 2124, 2126, 2128] (by decide +kernel) (by decide +kernel)
set_option maxRecDepth 100000 in
theorem inTX6 : ∀ w ∈ wsX60, w ∈ tbG := tb_mem [1054, 1056] (by decide +kernel) (by decide +kernel)
set_option maxRecDepth 100000 in
theorem inTX7 : ∀ w ∈ wsX70, w ∈ tbG := tb_mem [2157, 2159, 2161, 2163, 2165, 2167, 2169, 2171, 2173, 2175, 2177, 2179, 2181, 2183, 2185, 2187] (by decide +kernel) (by decide +kernel)
set_option maxRecDepth 100000 in
theorem inTX8 : ∀ w ∈ wsX80, w ∈ tbG := tb_mem [2002, 2004, 2006, 2008, 2010] (by decide +kernel) (by decide +kernel)
set_option maxRecDepth 100000 in
theorem inTX9 : ∀ w ∈ wsX90, w ∈ tbG := tb_mem [1203, 1205, 1207, 1209, 1211, 1213, 1215, 1217, 1219, 1221, 1223] (by decide +kernel) (by decide +kernel)
set_option maxRecDepth 100000 in
theorem inTX10 : ∀ w ∈ wsX100, w ∈ tbG := tb_mem [2205, 2207, 2209, 2211, 2213, 2215, 2217, 2219, 2221, 2223, 2225, 2227, 2229, 2231] (by decide +kernel) (by decide +kernel)
set_option maxRecDepth 100000 in
theorem inTX11 : ∀ w ∈ wsX110, w ∈ tbG := tb_mem [5199, 5201, 5203, 5205, 5207, 5209, 5211, 5213, 5215, 5217, 5219, 5221, 5223, 5225, 5227, 5229, 5231, 5233, 5235, 5237, 5239, 6001, 6003, 6005, 6007, 6009, 6011, 6013, 6015, 6017, 6019, 6021, 6023, 6025, 6027, 6029, 6031, 6033, 6035, 6037, 6039, 6041, 6043, 6045, 6047, 6049, 6051, 6053, 6055, 6057, 6059, 6061, 6063, 6065, 6067, 6069, 6071, 6073, 6075, 6077, 6079, 6081, 6083, 6085, 6087, 6089, 6091, 6093, 6095, 6097, 6099, 6101, 6103, 6105, 6107, 6109, 6111, 6113, 6115, 6117, 6119, 6121] (by decide +kernel) (by decide +kernel)
def vwTy : List (Nat → FieldType) := [tyX0, tyX1, tyX2, tyX3, tyX4, tyX5, tyX6, tyX7, tyX8, tyX9, tyX10, tyX11]
theorem cl_in : ∀ (ci : Nat) (q : vw_C), vwCl[ci]? = some q → ∀ w ∈ u_ws q.1 q.2.1 q.2.2, w ∈ tbG := by
  intro ci q h
  match ci, h with
  | 0, h => cases h; exact inTX0
  | 1, h => cases h; exact inTX1
  | 2, h => cases h; exact inTX2
  | 3, h => cases h; exact inTX3
  | 4, h => cases h; exact inTX4
  | 5, h => cases h; exact inTX5
  | 6, h => cases h; exact inTX6
  | 7, h => cases h; exact inTX7
  | 8, h => cases h; exact inTX8
  | 9, h => cases h; exact inTX9
  | 10, h => cases h; exact inTX10
  | 11, h => cases h; exact inTX11
  | k + 12, h => simp [vwCl] at h
theorem cl_ty : ∀ (ci : Nat) (q : vw_C), vwCl[ci]? = some q → ∃ ty : Nat → FieldType, ∀ k, k < q.2.2 → parseFieldDescriptor (q.2.1 k).2.2.1 = some (ty k) := by
  intro ci q h
  match ci, h with
  | 0, h => cases h; exact ⟨tyX0, tyX0_ok⟩
  | 1, h => cases h; exact ⟨tyX1, tyX1_ok⟩
  | 2, h => cases h; exact ⟨tyX2, tyX2_ok⟩
  | 3, h => cases h; exact ⟨tyX3, tyX3_ok⟩
  | 4, h => cases h; exact ⟨tyX4, tyX4_ok⟩
  | 5, h => cases h; exact ⟨tyX5, tyX5_ok⟩
  | 6, h => cases h; exact ⟨tyX6, tyX6_ok⟩
  | 7, h => cases h; exact ⟨tyX7, tyX7_ok⟩
  | 8, h => cases h; exact ⟨tyX8, tyX8_ok⟩
  | 9, h => cases h; exact ⟨tyX9, tyX9_ok⟩
  | 10, h => cases h; exact ⟨tyX10, tyX10_ok⟩
  | 11, h => cases h; exact ⟨tyX11, tyX11_ok⟩
  | k + 12, h => simp [vwCl] at h
theorem cl_nm : ∀ (ci : Nat) (q : vw_C), vwCl[ci]? = some q → ∀ a, a < q.2.2 → ∀ b, b < q.2.2 → a ≠ b → (q.2.1 a).2.1 ≠ (q.2.1 b).2.1 := by
  intro ci q h
  match ci, h with
  | 0, h => cases h; exact nmX0
  | 1, h => cases h; exact nmX1
  | 2, h => cases h; exact nmX2
  | 3, h => cases h; exact nmX3
  | 4, h => cases h; exact nmX4
  | 5, h => cases h; exact nmX5
  | 6, h => cases h; exact nmX6
  | 7, h => cases h; exact nmX7
  | 8, h => cases h; exact nmX8
  | 9, h => cases h; exact nmX9
  | 10, h => cases h; exact nmX10
  | 11, h => cases h; exact nmX11
  | k + 12, h => simp [vwCl] at h
theorem CF_len : ∀ ci : Nat, (CF.getD ci []).length = ((vwCl[ci]?).map (fun q => q.2.2)).getD 0 := by
  intro ci
  match ci with
  | 0 => rfl
  | 1 => rfl
  | 2 => rfl
  | 3 => rfl
  | 4 => rfl
  | 5 => rfl
  | 6 => rfl
  | 7 => rfl
  | 8 => rfl
  | 9 => rfl
  | 10 => rfl
  | 11 => rfl
  | k + 12 => rfl
