/-! fields and arrays of the pure machine -/
theorem pm_inL {C : String} {T : u_T} {N : Nat} (l : List Nat) (h : (u_ws C T N).map some = l.map pm_look) (hg : (u_ws C T N).all goodWord = true) : ∀ w ∈ u_ws C T N, w ∈ pm_all := by
  intro w hw
  have h1 : some w ∈ l.map pm_look := h ▸ List.mem_map_of_mem hw
  obtain ⟨i, _, e⟩ := List.mem_map.mp h1
  exact pm_inR i e (List.all_eq_true.mp hg w hw)
theorem pm_uw0 : ∀ w ∈ u_ws RX0 TX0 3, w ∈ pm_all := pm_inL [2140, 2142, 2144] rfl rfl
theorem pm_uw1 : ∀ w ∈ u_ws RX1 TX1 2, w ∈ pm_all := pm_inL [2115, 2117] rfl rfl
theorem pm_uw2 : ∀ w ∈ u_ws RX2 TX2 8, w ∈ pm_all := pm_inL [1221, 1223, 1225, 1227, 1229, 1231, 1233, 1235] rfl rfl
theorem pm_uw3 : ∀ w ∈ u_ws RX3 TX3 2, w ∈ pm_all := pm_inL [2035, 2037] rfl rfl
theorem pm_uw4 : ∀ w ∈ u_ws RX4 TX4 2, w ∈ pm_all := pm_inL [2122, 2124] rfl rfl
theorem pm_uw5 : ∀ w ∈ u_ws RX5 TX5 13, w ∈ pm_all := pm_inL [1177, 1179, 1181, 1183, 1185, 1187, 1189, 1191, 1193, 1195, 1197, 1199, 1201] rfl rfl
theorem pm_uw6 : ∀ w ∈ u_ws RX6 TX6 7, w ∈ pm_all := pm_inL [2012, 2014, 2016, 2018, 2020, 2022, 2024] rfl rfl
theorem pm_uw7 : ∀ w ∈ u_ws RX7 TX7 12, w ∈ pm_all := pm_inL [1102, 1104, 1106, 1108, 1110, 1112, 1114, 1116, 1118, 1120, 1122, 1124] rfl rfl
theorem pm_uw8 : ∀ w ∈ u_ws RX8 TX8 2, w ∈ pm_all := pm_inL [1038, 1040] rfl rfl
theorem pm_uw9 : ∀ w ∈ u_ws RX9 TX9 5, w ∈ pm_all := pm_inL [1061, 1063, 1065, 1067, 1069] rfl rfl
theorem pm_uw10 : ∀ w ∈ u_ws RX10 TX10 16, w ∈ pm_all := pm_inL [2068, 2070, 2072, 2074, 2076, 2078, 2080, 2082, 2084, 2086, 2088, 2090, 2092, 2094, 2096, 2098] rfl rfl
theorem pm_uw11 : ∀ w ∈ u_ws RX11 TX11 17, w ∈ pm_all := pm_inL [2164, 2166, 2168, 2170, 2172, 2174, 2176, 2178, 2180, 2182, 2184, 2186, 2188, 2190, 2192, 2194, 2196] rfl rfl
theorem pm_uw12 : ∀ w ∈ u_ws RX12 TX12 58, w ∈ pm_all := pm_inL [5179, 5181, 5183, 5185, 5187, 5189, 5191, 5193, 5195, 5197, 5199, 5201, 5203, 5205, 5207, 5209, 5211, 5213, 5215, 5217, 5219, 5221, 5223, 5225, 5227, 5229, 5231, 5233, 5235, 5237, 5239, 6001, 6003, 6005, 6007, 6009, 6011, 6013, 6015, 6017, 6019, 6021, 6023, 6025, 6027, 6029, 6031, 6033, 6035, 6037, 6039, 6041, 6043, 6045, 6047, 6049, 6051, 6053] rfl rfl
/-- class ci's number, its table of fields and how many -/
theorem pm_uws : ∀ (ci : Nat) (C : String) (T : u_T) (N : Nat), pm_cl[ci]? = some (C, T, N) → (∀ w ∈ u_ws C T N, w ∈ pm_all) ∧ (∀ k, k < N → parseFieldDescriptor (T k).2.2.1 = some (pm_ty ci k)) ∧ (∀ a, a < N → ∀ b, b < N → a ≠ b → (T a).2.1 ≠ (T b).2.1) := by
  intro ci C T N h
  match ci, h with
  | 0, h => cases h; exact ⟨pm_uw0, tyX0_ok, nmX0⟩
  | 1, h => cases h; exact ⟨pm_uw1, tyX1_ok, nmX1⟩
  | 2, h => cases h; exact ⟨pm_uw2, tyX2_ok, nmX2⟩
  | 3, h => cases h; exact ⟨pm_uw3, tyX3_ok, nmX3⟩
  | 4, h => cases h; exact ⟨pm_uw4, tyX4_ok, nmX4⟩
  | 5, h => cases h; exact ⟨pm_uw5, tyX5_ok, nmX5⟩
  | 6, h => cases h; exact ⟨pm_uw6, tyX6_ok, nmX6⟩
  | 7, h => cases h; exact ⟨pm_uw7, tyX7_ok, nmX7⟩
  | 8, h => cases h; exact ⟨pm_uw8, tyX8_ok, nmX8⟩
  | 9, h => cases h; exact ⟨pm_uw9, tyX9_ok, nmX9⟩
  | 10, h => cases h; exact ⟨pm_uw10, tyX10_ok, nmX10⟩
  | 11, h => cases h; exact ⟨pm_uw11, tyX11_ok, nmX11⟩
  | 12, h => cases h; exact ⟨pm_uw12, tyX12_ok, nmX12⟩
  | k + 13, h => simp [pm_cl] at h
